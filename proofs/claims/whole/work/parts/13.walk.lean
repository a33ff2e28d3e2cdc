-- BellRope.best
theorem dX10_best_0 : decode cX10_best 0 = .ok (.aload_n 0, 1) := by decide +kernel
theorem dX10_best_1 : decode cX10_best 1 = .ok (.iload_n 1, 1) := by decide +kernel
theorem dX10_best_10 : decode cX10_best 10 = .ok (.iconst 1, 1) := by decide +kernel
theorem dX10_best_11 : decode cX10_best 11 = .ok (.goto 4, 3) := by decide +kernel
theorem dX10_best_5 : decode cX10_best 5 = .ok (.iload_n 1, 1) := by decide +kernel
theorem dX10_best_6 : decode cX10_best 6 = .ok (.iconst 1, 1) := by decide +kernel
theorem dX10_best_14 : decode cX10_best 14 = .ok (.iconst 0, 1) := by decide +kernel
theorem dX10_best_7 : decode cX10_best 7 = .ok (.if_icmp .le 7, 3) := by decide +kernel
theorem dX10_best_2 : decode cX10_best 2 = .ok (.ifCond .lt 8, 3) := by decide +kernel
theorem dX10_best_15 : decode cX10_best 15 = .ok (.invokevirtual 218, 3) := by decide +kernel
theorem dX10_best_18 : decode cX10_best 18 = .ok (.istore_n 2, 1) := by decide +kernel
theorem dX10_best_19 : decode cX10_best 19 = .ok (.iload_n 2, 1) := by decide +kernel
theorem dX10_best_25 : decode cX10_best 25 = .ok (.aload_n 0, 1) := by decide +kernel
theorem dX10_best_26 : decode cX10_best 26 = .ok (.getfield 43, 3) := by decide +kernel
theorem dX10_best_29 : decode cX10_best 29 = .ok (.aload_n 0, 1) := by decide +kernel
theorem dX10_best_30 : decode cX10_best 30 = .ok (.getfield 71, 3) := by decide +kernel
theorem dX10_best_33 : decode cX10_best 33 = .ok (.aload_n 0, 1) := by decide +kernel
theorem dX10_best_34 : decode cX10_best 34 = .ok (.getfield 19, 3) := by decide +kernel
theorem dX10_best_37 : decode cX10_best 37 = .ok (.bipush 96, 2) := by decide +kernel
theorem dX10_best_39 : decode cX10_best 39 = .ok (.invokevirtual 229, 3) := by decide +kernel
theorem dX10_best_42 : decode cX10_best 42 = .ok (.iconst 1, 1) := by decide +kernel
theorem dX10_best_43 : decode cX10_best 43 = .ok (.istore_n 3, 1) := by decide +kernel
theorem dX10_best_44 : decode cX10_best 44 = .ok (.bipush 7, 2) := by decide +kernel
theorem dX10_best_46 : decode cX10_best 46 = .ok (.istore 4, 2) := by decide +kernel
theorem dX10_best_48 : decode cX10_best 48 = .ok (.iconst 1, 1) := by decide +kernel
theorem dX10_best_49 : decode cX10_best 49 = .ok (.istore 5, 2) := by decide +kernel
theorem dX10_best_51 : decode cX10_best 51 = .ok (.iload 5, 2) := by decide +kernel
theorem dX10_best_53 : decode cX10_best 53 = .ok (.bipush 16, 2) := by decide +kernel
theorem dX10_best_58 : decode cX10_best 58 = .ok (.aload_n 0, 1) := by decide +kernel
theorem dX10_best_59 : decode cX10_best 59 = .ok (.iload 5, 2) := by decide +kernel
theorem dX10_best_61 : decode cX10_best 61 = .ok (.invokevirtual 245, 3) := by decide +kernel
theorem dX10_best_64 : decode cX10_best 64 = .ok (.invokestatic 248, 3) := by decide +kernel
theorem dX10_best_67 : decode cX10_best 67 = .ok (.istore 6, 2) := by decide +kernel
theorem dX10_best_69 : decode cX10_best 69 = .ok (.iload 6, 2) := by decide +kernel
theorem dX10_best_71 : decode cX10_best 71 = .ok (.iload 4, 2) := by decide +kernel
theorem dX10_best_76 : decode cX10_best 76 = .ok (.iload 6, 2) := by decide +kernel
theorem dX10_best_78 : decode cX10_best 78 = .ok (.istore 4, 2) := by decide +kernel
theorem dX10_best_80 : decode cX10_best 80 = .ok (.iload 5, 2) := by decide +kernel
theorem dX10_best_82 : decode cX10_best 82 = .ok (.istore_n 3, 1) := by decide +kernel
theorem dX10_best_73 : decode cX10_best 73 = .ok (.if_icmp .ge 10, 3) := by decide +kernel
theorem dX10_best_83 : decode cX10_best 83 = .ok (.iinc 5 1, 3) := by decide +kernel
theorem dX10_best_86 : decode cX10_best 86 = .ok (.goto (-35), 3) := by decide +kernel
theorem dX10_best_55 : decode cX10_best 55 = .ok (.if_icmp .gt 34, 3) := by decide +kernel
theorem dX10_best_89 : decode cX10_best 89 = .ok (.iload_n 1, 1) := by decide +kernel
theorem dX10_best_97 : decode cX10_best 97 = .ok (.iload 4, 2) := by decide +kernel
theorem dX10_best_99 : decode cX10_best 99 = .ok (.ireturn, 1) := by decide +kernel
theorem dX10_best_93 : decode cX10_best 93 = .ok (.iload_n 3, 1) := by decide +kernel
theorem dX10_best_94 : decode cX10_best 94 = .ok (.goto 5, 3) := by decide +kernel
theorem dX10_best_90 : decode cX10_best 90 = .ok (.ifCond .ne 7, 3) := by decide +kernel
theorem dX10_best_23 : decode cX10_best 23 = .ok (.iload_n 2, 1) := by decide +kernel
theorem dX10_best_24 : decode cX10_best 24 = .ok (.ireturn, 1) := by decide +kernel
theorem dX10_best_20 : decode cX10_best 20 = .ok (.ifCond .eq 5, 3) := by decide +kernel
theorem lX10_best_L51 (x : bo_X) (hx : bo_OK x cX10_best RX10 7 5 119) (σ : bo_M) (f1 : Int32) : ∀ (n : Nat) (w3 : Int32) (w4 : Int32) (w5 : Int32), bo_D x 51 [(0, .ref (bo_a x 0)), (1, .int f1), (3, .int w3), (4, .int w4), (5, .int w5)] [] σ (mX10_best_L51 σ f1 n w3 w4 w5) (fun a => bo_N x 89 [(1, .int f1), (3, .int a.1), (4, .int a.2)] [] σ) := by
  intro n
  induction n with
  | zero => intro w3 w4 w5; exact bo_none
  | succ n ih =>
    intro w3 w4 w5
    rw [mX10_best_L51]
    refine bo_iload hx dX10_best_51 4 rfl ?_
    refine bo_bipush (v := 16) hx dX10_best_53 (by decide) ?_
    refine bo_icmp_gt hx 89 dX10_best_55 (by decide) ?_ ?_
    · refine bo_sub (L' := [(1, .int f1), (3, .int w3), (4, .int w4)]) [1, 2, 3] rfl ?_
      exact bo_arr (fun h => h)
    · refine bo_aload_n hx dX10_best_58 rfl 0 rfl ?_
      refine bo_iload hx dX10_best_59 4 rfl ?_
      refine bo_goR (z := false) hx (fun rr hh => bo_runV (As := [.int w5]) (S := []) hx dX10_best_61 lk_X10_245 mi_X10_lateBy bo_o_0 rfl rfl (kX10_lateBy (bo_l x) (bo_g x) hx.inj σ w5 rr hh) ⟨by decide, by decide⟩ rfl rfl (Nat.le_of_ble_eq_true rfl)) (fun v4 hv4 => ?_)
      refine bo_goR (z := false) hx (fun rr hh => bo_runS (As := [.int v4]) (S := []) hx dX10_best_64 lk_X10_248 ms_J6_bitCount_0f7a4 (kJ6_bitCount_0f7a4 (bo_l x) (bo_g x) hx.inj σ v4 rr hh) ⟨by decide, by decide⟩ rfl rfl (Nat.le_of_ble_eq_true rfl)) (fun v5 hv5 => ?_)
      refine bo_istore (L' := [(6, .int v5), (0, .ref (bo_a x 0)), (1, .int f1), (3, .int w3), (4, .int w4), (5, .int w5)]) hx dX10_best_67 (by decide) rfl ?_
      refine bo_iload hx dX10_best_69 0 rfl ?_
      refine bo_iload hx dX10_best_71 4 rfl ?_
      refine bo_seq 83 (fun a => [(0, .ref (bo_a x 0)), (1, .int f1), (3, .int a.1), (4, .int a.2), (5, .int w5)]) (fun a => []) (fun a => σ) ?_ (fun a6 => ?_)
      · refine bo_icmp_ge hx 83 dX10_best_73 (by decide) ?_ ?_
        · refine bo_sub (L' := [(0, .ref (bo_a x 0)), (1, .int f1), (3, .int w3), (4, .int w4), (5, .int w5)]) [1, 2, 3, 4, 5] rfl ?_
          exact bo_arr (fun h => h)
        · refine bo_iload hx dX10_best_76 0 rfl ?_
          refine bo_istore (L' := [(4, .int v5), (6, .int v5), (0, .ref (bo_a x 0)), (1, .int f1), (3, .int w3), (5, .int w5)]) hx dX10_best_78 (by decide) rfl ?_
          refine bo_iload hx dX10_best_80 5 rfl ?_
          refine bo_istore_n (L' := [(3, .int w5), (4, .int v5), (6, .int v5), (0, .ref (bo_a x 0)), (1, .int f1), (5, .int w5)]) hx dX10_best_82 rfl (by decide) rfl ?_
          refine bo_sub (L' := [(0, .ref (bo_a x 0)), (1, .int f1), (3, .int w5), (4, .int v5), (5, .int w5)]) [3, 4, 0, 1, 5] rfl ?_
          exact bo_arr (fun h => h)
      · refine bo_iinc (L' := [(5, .int (w5 + 1)), (0, .ref (bo_a x 0)), (1, .int f1), (3, .int a6.1), (4, .int a6.2)]) (w := (w5 + 1)) hx dX10_best_83 4 rfl rfl (by decide) rfl ?_
        refine bo_goto hx 51 dX10_best_86 (by decide) ?_
        refine bo_sub (L' := [(0, .ref (bo_a x 0)), (1, .int f1), (3, .int a6.1), (4, .int a6.2), (5, .int (w5 + 1))]) [1, 2, 3, 4, 0] rfl ?_
        exact ih a6.1 a6.2 (w5 + 1)
theorem bX10_best (x : bo_X) (hx : bo_OK x cX10_best RX10 7 5 119) (σ : bo_M) (p1 : Int32) : bo_D x 0 [(0, .ref (bo_a x 0)), (1, .int p1)] [] σ (mX10_best σ p1) (bo_Rw x cX10_best false) := by
  unfold mX10_best
  refine bo_aload_n hx dX10_best_0 rfl 0 rfl ?_
  refine bo_iload_n hx dX10_best_1 rfl 1 rfl ?_
  refine bo_seq 15 (fun a => [(0, .ref (bo_a x 0)), (1, .int p1)]) (fun a => [.int a, .ref (bo_a x 0)]) (fun a => σ) ?_ (fun a1 => ?_)
  · refine bo_if_lt hx 10 dX10_best_2 (by decide) ?_ ?_
    · refine bo_iconst (v := 1) hx dX10_best_10 (by decide) ?_
      refine bo_goto hx 15 dX10_best_11 (by decide) ?_
      exact bo_arr (fun h => h)
    · refine bo_iload_n hx dX10_best_5 rfl 1 rfl ?_
      refine bo_iconst (v := 1) hx dX10_best_6 (by decide) ?_
      refine bo_icmp_le hx 14 dX10_best_7 (by decide) ?_ ?_
      · refine bo_iconst (v := 0) hx dX10_best_14 (by decide) ?_
        exact bo_arr (fun h => h)
      · refine bo_iconst (v := 1) hx dX10_best_10 (by decide) ?_
        refine bo_goto hx 15 dX10_best_11 (by decide) ?_
        exact bo_arr (fun h => h)
  · refine bo_goR (z := false) hx (fun rr hh => bo_runV (As := [.int a1]) (S := []) hx dX10_best_15 lk_X10_218 mi_X10_refused bo_o_0 rfl rfl (kX10_refused (bo_l x) (bo_g x) hx.inj σ a1 rr hh) ⟨by decide, by decide⟩ rfl rfl (Nat.le_of_ble_eq_true rfl)) (fun v2 hv2 => ?_)
    refine bo_istore_n (L' := [(2, .int v2), (0, .ref (bo_a x 0)), (1, .int p1)]) hx dX10_best_18 rfl (by decide) rfl ?_
    refine bo_iload_n hx dX10_best_19 rfl 0 rfl ?_
    refine bo_if_eq hx 25 dX10_best_20 (by decide) ?_ ?_
    · refine bo_aload_n hx dX10_best_25 rfl 1 rfl ?_
      refine gf_X10_43 hx dX10_best_26 ?_
      refine bo_aload_n hx dX10_best_29 rfl 1 rfl ?_
      refine gf_X10_71 hx dX10_best_30 ?_
      refine bo_aload_n hx dX10_best_33 rfl 1 rfl ?_
      refine gf_X10_19 hx dX10_best_34 ?_
      refine bo_bipush (v := 96) hx dX10_best_37 (by decide) ?_
      refine bo_goV hx (fun rr hh => bo_runV (As := [.ref (bo_a x (bo_inn (σ 0 9))), .ref (bo_a x 50), .int 96]) (S := []) hx dX10_best_39 lk_X10_229 mi_X9_run bo_o_17 rfl rfl (kX9_run (bo_l x) (bo_g x) hx.inj σ (bo_inn (σ 0 9)) 50 96 (bo_inn_ok (σ 0 9)) bo_ev50 rr hh) ⟨by decide, by decide⟩ rfl rfl (Nat.le_of_ble_eq_true rfl)) (fun σ3 => ?_)
      refine bo_iconst (v := 1) hx dX10_best_42 (by decide) ?_
      refine bo_istore_n (L' := [(3, .int 1), (2, .int v2), (0, .ref (bo_a x 0)), (1, .int p1)]) hx dX10_best_43 rfl (by decide) rfl ?_
      refine bo_bipush (v := 7) hx dX10_best_44 (by decide) ?_
      refine bo_istore (L' := [(4, .int 7), (3, .int 1), (2, .int v2), (0, .ref (bo_a x 0)), (1, .int p1)]) hx dX10_best_46 (by decide) rfl ?_
      refine bo_iconst (v := 1) hx dX10_best_48 (by decide) ?_
      refine bo_istore (L' := [(5, .int 1), (4, .int 7), (3, .int 1), (2, .int v2), (0, .ref (bo_a x 0)), (1, .int p1)]) hx dX10_best_49 (by decide) rfl ?_
      refine bo_sub (L' := [(0, .ref (bo_a x 0)), (1, .int p1), (3, .int 1), (4, .int 7), (5, .int 1)]) [4, 5, 2, 1, 0] rfl ?_
      refine bo_seq 89 (fun a => [(1, .int p1), (3, .int a.1), (4, .int a.2)]) (fun a => []) (fun a => σ3) (lX10_best_L51 x hx σ3 p1 bo_fuel 1 7 1) (fun a7 => ?_)
      refine bo_iload_n hx dX10_best_89 rfl 0 rfl ?_
      refine bo_if_ne hx 97 dX10_best_90 (by decide) ?_ ?_
      · refine bo_iload hx dX10_best_97 2 rfl ?_
        exact bo_retw dX10_best_99 (fun h => by cases h)
      · refine bo_iload_n hx dX10_best_93 rfl 1 rfl ?_
        refine bo_goto hx 99 dX10_best_94 (by decide) ?_
        exact bo_retw dX10_best_99 (fun h => by cases h)
    · refine bo_iload_n hx dX10_best_23 rfl 0 rfl ?_
      exact bo_retw dX10_best_24 (fun h => by cases h)
theorem kX10_best (l : Launch) (g : bo_G) (hi : bo_inj g) (σ : bo_M) (p1 : Int32) : bo_CW l g yX10_best cX10_best 7 (some .int) 5 119 [.ref (g.2.2 0), .int p1] σ false (mX10_best σ p1) :=
  bo_metW rfl (Or.inl ⟨rfl, rfl⟩) (by decide) rfl hi (Nat.le_of_ble_eq_true rfl) (fun x e1 e2 hx => by subst e1; subst e2; exact bX10_best x hx σ p1)
-- BellRope.alone
theorem dX10_alone_0 : decode cX10_alone 0 = .ok (.aload_n 0, 1) := by decide +kernel
theorem dX10_alone_1 : decode cX10_alone 1 = .ok (.getfield 71, 3) := by decide +kernel
theorem dX10_alone_4 : decode cX10_alone 4 = .ok (.iload_n 1, 1) := by decide +kernel
theorem dX10_alone_5 : decode cX10_alone 5 = .ok (.invokevirtual 179, 3) := by decide +kernel
theorem dX10_alone_14 : decode cX10_alone 14 = .ok (.aload_n 0, 1) := by decide +kernel
theorem dX10_alone_15 : decode cX10_alone 15 = .ok (.getfield 43, 3) := by decide +kernel
theorem dX10_alone_18 : decode cX10_alone 18 = .ok (.aload_n 0, 1) := by decide +kernel
theorem dX10_alone_19 : decode cX10_alone 19 = .ok (.getfield 71, 3) := by decide +kernel
theorem dX10_alone_22 : decode cX10_alone 22 = .ok (.aload_n 0, 1) := by decide +kernel
theorem dX10_alone_23 : decode cX10_alone 23 = .ok (.getfield 19, 3) := by decide +kernel
theorem dX10_alone_26 : decode cX10_alone 26 = .ok (.bipush 96, 2) := by decide +kernel
theorem dX10_alone_28 : decode cX10_alone 28 = .ok (.invokevirtual 229, 3) := by decide +kernel
theorem dX10_alone_31 : decode cX10_alone 31 = .ok (.iconst 0, 1) := by decide +kernel
theorem dX10_alone_32 : decode cX10_alone 32 = .ok (.istore_n 2, 1) := by decide +kernel
theorem dX10_alone_33 : decode cX10_alone 33 = .ok (.iconst 1, 1) := by decide +kernel
theorem dX10_alone_34 : decode cX10_alone 34 = .ok (.istore_n 3, 1) := by decide +kernel
theorem dX10_alone_35 : decode cX10_alone 35 = .ok (.iload_n 3, 1) := by decide +kernel
theorem dX10_alone_36 : decode cX10_alone 36 = .ok (.bipush 16, 2) := by decide +kernel
theorem dX10_alone_41 : decode cX10_alone 41 = .ok (.aload_n 0, 1) := by decide +kernel
theorem dX10_alone_42 : decode cX10_alone 42 = .ok (.iload_n 3, 1) := by decide +kernel
theorem dX10_alone_43 : decode cX10_alone 43 = .ok (.invokevirtual 245, 3) := by decide +kernel
theorem dX10_alone_46 : decode cX10_alone 46 = .ok (.iload_n 1, 1) := by decide +kernel
theorem dX10_alone_47 : decode cX10_alone 47 = .ok (.invokestatic 166, 3) := by decide +kernel
theorem dX10_alone_53 : decode cX10_alone 53 = .ok (.iload_n 2, 1) := by decide +kernel
theorem dX10_alone_54 : decode cX10_alone 54 = .ok (.iconst 1, 1) := by decide +kernel
theorem dX10_alone_55 : decode cX10_alone 55 = .ok (.iload_n 3, 1) := by decide +kernel
theorem dX10_alone_56 : decode cX10_alone 56 = .ok (.ishl, 1) := by decide +kernel
theorem dX10_alone_57 : decode cX10_alone 57 = .ok (.ior, 1) := by decide +kernel
theorem dX10_alone_58 : decode cX10_alone 58 = .ok (.istore_n 2, 1) := by decide +kernel
theorem dX10_alone_50 : decode cX10_alone 50 = .ok (.ifCond .ne 9, 3) := by decide +kernel
theorem dX10_alone_59 : decode cX10_alone 59 = .ok (.iinc 3 1, 3) := by decide +kernel
theorem dX10_alone_62 : decode cX10_alone 62 = .ok (.goto (-27), 3) := by decide +kernel
theorem dX10_alone_38 : decode cX10_alone 38 = .ok (.if_icmp .gt 27, 3) := by decide +kernel
theorem dX10_alone_65 : decode cX10_alone 65 = .ok (.iload_n 2, 1) := by decide +kernel
theorem dX10_alone_66 : decode cX10_alone 66 = .ok (.ireturn, 1) := by decide +kernel
theorem dX10_alone_11 : decode cX10_alone 11 = .ok (.ldc 149, 2) := by decide +kernel
theorem dX10_alone_13 : decode cX10_alone 13 = .ok (.ireturn, 1) := by decide +kernel
theorem dX10_alone_8 : decode cX10_alone 8 = .ok (.ifCond .ne 6, 3) := by decide +kernel
theorem lX10_alone_L35 (x : bo_X) (hx : bo_OK x cX10_alone RX10 4 5 119) (σ : bo_M) (f1 : Int32) : ∀ (n : Nat) (w2 : Int32) (w3 : Int32), bo_D x 35 [(0, .ref (bo_a x 0)), (1, .int f1), (2, .int w2), (3, .int w3)] [] σ (mX10_alone_L35 σ f1 n w2 w3) (fun a => bo_N x 65 [(2, .int a)] [] σ) := by
  intro n
  induction n with
  | zero => intro w2 w3; exact bo_none
  | succ n ih =>
    intro w2 w3
    rw [mX10_alone_L35]
    refine bo_iload_n hx dX10_alone_35 rfl 3 rfl ?_
    refine bo_bipush (v := 16) hx dX10_alone_36 (by decide) ?_
    refine bo_icmp_gt hx 65 dX10_alone_38 (by decide) ?_ ?_
    · refine bo_sub (L' := [(2, .int w2)]) [2] rfl ?_
      exact bo_arr (fun h => h)
    · refine bo_aload_n hx dX10_alone_41 rfl 0 rfl ?_
      refine bo_iload_n hx dX10_alone_42 rfl 3 rfl ?_
      refine bo_goR (z := false) hx (fun rr hh => bo_runV (As := [.int w3]) (S := []) hx dX10_alone_43 lk_X10_245 mi_X10_lateBy bo_o_0 rfl rfl (kX10_lateBy (bo_l x) (bo_g x) hx.inj σ w3 rr hh) ⟨by decide, by decide⟩ rfl rfl (Nat.le_of_ble_eq_true rfl)) (fun v3 hv3 => ?_)
      refine bo_iload_n hx dX10_alone_46 rfl 1 rfl ?_
      refine bo_goR (z := false) hx (fun rr hh => bo_runS (As := [.int v3, .int f1]) (S := []) hx dX10_alone_47 lk_X10_166 ms_X10_bit (kX10_bit (bo_l x) (bo_g x) hx.inj σ v3 f1 rr hh) ⟨by decide, by decide⟩ rfl rfl (Nat.le_of_ble_eq_true rfl)) (fun v4 hv4 => ?_)
      refine bo_seq 59 (fun a => [(0, .ref (bo_a x 0)), (1, .int f1), (2, .int a), (3, .int w3)]) (fun a => []) (fun a => σ) ?_ (fun a5 => ?_)
      · refine bo_if_ne hx 59 dX10_alone_50 (by decide) ?_ ?_
        · exact bo_arr (fun h => h)
        · refine bo_iload_n hx dX10_alone_53 rfl 2 rfl ?_
          refine bo_iconst (v := 1) hx dX10_alone_54 (by decide) ?_
          refine bo_iload_n hx dX10_alone_55 rfl 3 rfl ?_
          refine bo_ishl hx dX10_alone_56 ?_
          refine bo_ior hx dX10_alone_57 ?_
          refine bo_istore_n (L' := [(2, .int (w2 ||| (1 <<< (w3 &&& 31)))), (0, .ref (bo_a x 0)), (1, .int f1), (3, .int w3)]) hx dX10_alone_58 rfl (by decide) rfl ?_
          refine bo_sub (L' := [(0, .ref (bo_a x 0)), (1, .int f1), (2, .int (w2 ||| (1 <<< (w3 &&& 31)))), (3, .int w3)]) [1, 2, 0, 3] rfl ?_
          exact bo_arr (fun h => h)
      · refine bo_iinc (L' := [(3, .int (w3 + 1)), (0, .ref (bo_a x 0)), (1, .int f1), (2, .int a5)]) (w := (w3 + 1)) hx dX10_alone_59 3 rfl rfl (by decide) rfl ?_
        refine bo_goto hx 35 dX10_alone_62 (by decide) ?_
        refine bo_sub (L' := [(0, .ref (bo_a x 0)), (1, .int f1), (2, .int a5), (3, .int (w3 + 1))]) [1, 2, 3, 0] rfl ?_
        exact ih a5 (w3 + 1)
theorem bX10_alone (x : bo_X) (hx : bo_OK x cX10_alone RX10 4 5 119) (σ : bo_M) (p1 : Int32) : bo_D x 0 [(0, .ref (bo_a x 0)), (1, .int p1)] [] σ (mX10_alone σ p1) (bo_Rw x cX10_alone false) := by
  unfold mX10_alone
  refine bo_aload_n hx dX10_alone_0 rfl 0 rfl ?_
  refine gf_X10_71 hx dX10_alone_1 ?_
  refine bo_iload_n hx dX10_alone_4 rfl 1 rfl ?_
  refine bo_goR (z := true) hx (fun rr hh => bo_runV (As := [.int p1]) (S := []) hx dX10_alone_5 lk_X10_179 mi_X4_hasGoer (bo_inn_ok (σ 0 9)).o rfl rfl (kX4_hasGoer (bo_l x) (bo_g x) hx.inj σ (bo_inn (σ 0 9)) p1 (bo_inn_ok (σ 0 9)) rr hh) ⟨by decide, by decide⟩ rfl rfl (Nat.le_of_ble_eq_true rfl)) (fun v1 hv1 => ?_)
  refine bo_if_ne hx 14 dX10_alone_8 (by decide) ?_ ?_
  · refine bo_aload_n hx dX10_alone_14 rfl 0 rfl ?_
    refine gf_X10_43 hx dX10_alone_15 ?_
    refine bo_aload_n hx dX10_alone_18 rfl 0 rfl ?_
    refine gf_X10_71 hx dX10_alone_19 ?_
    refine bo_aload_n hx dX10_alone_22 rfl 0 rfl ?_
    refine gf_X10_19 hx dX10_alone_23 ?_
    refine bo_bipush (v := 96) hx dX10_alone_26 (by decide) ?_
    refine bo_goV hx (fun rr hh => bo_runV (As := [.ref (bo_a x (bo_inn (σ 0 9))), .ref (bo_a x 50), .int 96]) (S := []) hx dX10_alone_28 lk_X10_229 mi_X9_run bo_o_17 rfl rfl (kX9_run (bo_l x) (bo_g x) hx.inj σ (bo_inn (σ 0 9)) 50 96 (bo_inn_ok (σ 0 9)) bo_ev50 rr hh) ⟨by decide, by decide⟩ rfl rfl (Nat.le_of_ble_eq_true rfl)) (fun σ2 => ?_)
    refine bo_iconst (v := 0) hx dX10_alone_31 (by decide) ?_
    refine bo_istore_n (L' := [(2, .int 0), (0, .ref (bo_a x 0)), (1, .int p1)]) hx dX10_alone_32 rfl (by decide) rfl ?_
    refine bo_iconst (v := 1) hx dX10_alone_33 (by decide) ?_
    refine bo_istore_n (L' := [(3, .int 1), (2, .int 0), (0, .ref (bo_a x 0)), (1, .int p1)]) hx dX10_alone_34 rfl (by decide) rfl ?_
    refine bo_sub (L' := [(0, .ref (bo_a x 0)), (1, .int p1), (2, .int 0), (3, .int 1)]) [2, 3, 1, 0] rfl ?_
    refine bo_seq 65 (fun a => [(2, .int a)]) (fun a => []) (fun a => σ2) (lX10_alone_L35 x hx σ2 p1 bo_fuel 0 1) (fun a6 => ?_)
    refine bo_iload_n hx dX10_alone_65 rfl 0 rfl ?_
    exact bo_retw dX10_alone_66 (fun h => by cases h)
  · refine bo_ldc (v := (-1000000001)) hx dX10_alone_11 wc_X10_149 ?_
    exact bo_retw dX10_alone_13 (fun h => by cases h)
theorem kX10_alone (l : Launch) (g : bo_G) (hi : bo_inj g) (σ : bo_M) (p1 : Int32) : bo_CW l g yX10_alone cX10_alone 4 (some .int) 5 119 [.ref (g.2.2 0), .int p1] σ false (mX10_alone σ p1) :=
  bo_metW rfl (Or.inl ⟨rfl, rfl⟩) (by decide) rfl hi (Nat.le_of_ble_eq_true rfl) (fun x e1 e2 hx => by subst e1; subst e2; exact bX10_alone x hx σ p1)
-- BellRope.given
theorem dX10_given_0 : decode cX10_given 0 = .ok (.aload_n 0, 1) := by decide +kernel
theorem dX10_given_1 : decode cX10_given 1 = .ok (.iload_n 1, 1) := by decide +kernel
theorem dX10_given_2 : decode cX10_given 2 = .ok (.iconst 1, 1) := by decide +kernel
theorem dX10_given_13 : decode cX10_given 13 = .ok (.iconst 1, 1) := by decide +kernel
theorem dX10_given_14 : decode cX10_given 14 = .ok (.goto 4, 3) := by decide +kernel
theorem dX10_given_6 : decode cX10_given 6 = .ok (.iload_n 1, 1) := by decide +kernel
theorem dX10_given_7 : decode cX10_given 7 = .ok (.sipush 192, 3) := by decide +kernel
theorem dX10_given_17 : decode cX10_given 17 = .ok (.iconst 0, 1) := by decide +kernel
theorem dX10_given_10 : decode cX10_given 10 = .ok (.if_icmp .le 7, 3) := by decide +kernel
theorem dX10_given_3 : decode cX10_given 3 = .ok (.if_icmp .lt 10, 3) := by decide +kernel
theorem dX10_given_18 : decode cX10_given 18 = .ok (.invokevirtual 218, 3) := by decide +kernel
theorem dX10_given_21 : decode cX10_given 21 = .ok (.istore_n 2, 1) := by decide +kernel
theorem dX10_given_22 : decode cX10_given 22 = .ok (.iload_n 2, 1) := by decide +kernel
theorem dX10_given_28 : decode cX10_given 28 = .ok (.aload_n 0, 1) := by decide +kernel
theorem dX10_given_29 : decode cX10_given 29 = .ok (.getfield 43, 3) := by decide +kernel
theorem dX10_given_32 : decode cX10_given 32 = .ok (.aload_n 0, 1) := by decide +kernel
theorem dX10_given_33 : decode cX10_given 33 = .ok (.getfield 71, 3) := by decide +kernel
theorem dX10_given_36 : decode cX10_given 36 = .ok (.aload_n 0, 1) := by decide +kernel
theorem dX10_given_37 : decode cX10_given 37 = .ok (.getfield 19, 3) := by decide +kernel
theorem dX10_given_40 : decode cX10_given 40 = .ok (.iload_n 1, 1) := by decide +kernel
theorem dX10_given_41 : decode cX10_given 41 = .ok (.invokevirtual 229, 3) := by decide +kernel
theorem dX10_given_44 : decode cX10_given 44 = .ok (.iconst 0, 1) := by decide +kernel
theorem dX10_given_45 : decode cX10_given 45 = .ok (.istore_n 3, 1) := by decide +kernel
theorem dX10_given_46 : decode cX10_given 46 = .ok (.iconst 0, 1) := by decide +kernel
theorem dX10_given_47 : decode cX10_given 47 = .ok (.istore 4, 2) := by decide +kernel
theorem dX10_given_49 : decode cX10_given 49 = .ok (.iload 4, 2) := by decide +kernel
theorem dX10_given_51 : decode cX10_given 51 = .ok (.iload_n 1, 1) := by decide +kernel
theorem dX10_given_55 : decode cX10_given 55 = .ok (.iload_n 3, 1) := by decide +kernel
theorem dX10_given_56 : decode cX10_given 56 = .ok (.aload_n 0, 1) := by decide +kernel
theorem dX10_given_57 : decode cX10_given 57 = .ok (.getfield 71, 3) := by decide +kernel
theorem dX10_given_60 : decode cX10_given 60 = .ok (.aload_n 0, 1) := by decide +kernel
theorem dX10_given_61 : decode cX10_given 61 = .ok (.getfield 43, 3) := by decide +kernel
theorem dX10_given_64 : decode cX10_given 64 = .ok (.getfield 233, 3) := by decide +kernel
theorem dX10_given_67 : decode cX10_given 67 = .ok (.iload 4, 2) := by decide +kernel
theorem dX10_given_69 : decode cX10_given 69 = .ok (.invokestatic 154, 3) := by decide +kernel
theorem dX10_given_72 : decode cX10_given 72 = .ok (.invokevirtual 253, 3) := by decide +kernel
theorem dX10_given_75 : decode cX10_given 75 = .ok (.ior, 1) := by decide +kernel
theorem dX10_given_76 : decode cX10_given 76 = .ok (.istore_n 3, 1) := by decide +kernel
theorem dX10_given_77 : decode cX10_given 77 = .ok (.iinc 4 1, 3) := by decide +kernel
theorem dX10_given_80 : decode cX10_given 80 = .ok (.goto (-31), 3) := by decide +kernel
theorem dX10_given_52 : decode cX10_given 52 = .ok (.if_icmp .ge 31, 3) := by decide +kernel
theorem dX10_given_83 : decode cX10_given 83 = .ok (.iload_n 3, 1) := by decide +kernel
theorem dX10_given_84 : decode cX10_given 84 = .ok (.ireturn, 1) := by decide +kernel
theorem dX10_given_26 : decode cX10_given 26 = .ok (.iload_n 2, 1) := by decide +kernel
theorem dX10_given_27 : decode cX10_given 27 = .ok (.ireturn, 1) := by decide +kernel
theorem dX10_given_23 : decode cX10_given 23 = .ok (.ifCond .eq 5, 3) := by decide +kernel
theorem lX10_given_L49 (x : bo_X) (hx : bo_OK x cX10_given RX10 5 5 119) (σ : bo_M) (f1 : Int32) : ∀ (n : Nat) (w3 : Int32) (w4 : Int32), bo_D x 49 [(0, .ref (bo_a x 0)), (1, .int f1), (3, .int w3), (4, .int w4)] [] σ (mX10_given_L49 σ f1 n w3 w4) (fun a => bo_N x 83 [(3, .int a)] [] σ) := by
  intro n
  induction n with
  | zero => intro w3 w4; exact bo_none
  | succ n ih =>
    intro w3 w4
    rw [mX10_given_L49]
    refine bo_iload hx dX10_given_49 3 rfl ?_
    refine bo_iload_n hx dX10_given_51 rfl 1 rfl ?_
    refine bo_icmp_ge hx 83 dX10_given_52 (by decide) ?_ ?_
    · refine bo_sub (L' := [(3, .int w3)]) [2] rfl ?_
      exact bo_arr (fun h => h)
    · refine bo_iload_n hx dX10_given_55 rfl 2 rfl ?_
      refine bo_aload_n hx dX10_given_56 rfl 0 rfl ?_
      refine gf_X10_71 hx dX10_given_57 ?_
      refine bo_aload_n hx dX10_given_60 rfl 0 rfl ?_
      refine gf_X10_43 hx dX10_given_61 ?_
      refine gf_X10_233 hx dX10_given_64 ?_
      refine bo_iload hx dX10_given_67 3 rfl ?_
      refine bo_goR (z := false) hx (fun rr hh => bo_runS (As := [.ref (bo_a x 23), .int w4]) (S := [.ref (bo_a x (bo_inn (σ 0 9))), .int w3]) hx dX10_given_69 lk_X10_154 ms_X8_at (kX8_at (bo_l x) (bo_g x) hx.inj σ 192 23 w4 bo_c_23 rr hh) ⟨by decide, by decide⟩ rfl rfl (Nat.le_of_ble_eq_true rfl)) (fun v4 hv4 => ?_)
      refine bo_goR (z := false) hx (fun rr hh => bo_runV (As := [.int v4]) (S := [.int w3]) hx dX10_given_72 lk_X10_253 mi_X4_signalsOf (bo_inn_ok (σ 0 9)).o rfl rfl (kX4_signalsOf (bo_l x) (bo_g x) hx.inj σ (bo_inn (σ 0 9)) v4 (bo_inn_ok (σ 0 9)) rr hh) ⟨by decide, by decide⟩ rfl rfl (Nat.le_of_ble_eq_true rfl)) (fun v5 hv5 => ?_)
      refine bo_ior hx dX10_given_75 ?_
      refine bo_istore_n (L' := [(3, .int (w3 ||| v5)), (0, .ref (bo_a x 0)), (1, .int f1), (4, .int w4)]) hx dX10_given_76 rfl (by decide) rfl ?_
      refine bo_iinc (L' := [(4, .int (w4 + 1)), (3, .int (w3 ||| v5)), (0, .ref (bo_a x 0)), (1, .int f1)]) (w := (w4 + 1)) hx dX10_given_77 3 rfl rfl (by decide) rfl ?_
      refine bo_goto hx 49 dX10_given_80 (by decide) ?_
      refine bo_sub (L' := [(0, .ref (bo_a x 0)), (1, .int f1), (3, .int (w3 ||| v5)), (4, .int (w4 + 1))]) [2, 3, 1, 0] rfl ?_
      exact ih (w3 ||| v5) (w4 + 1)
theorem bX10_given (x : bo_X) (hx : bo_OK x cX10_given RX10 5 5 119) (σ : bo_M) (p1 : Int32) : bo_D x 0 [(0, .ref (bo_a x 0)), (1, .int p1)] [] σ (mX10_given σ p1) (bo_Rw x cX10_given false) := by
  unfold mX10_given
  refine bo_aload_n hx dX10_given_0 rfl 0 rfl ?_
  refine bo_iload_n hx dX10_given_1 rfl 1 rfl ?_
  refine bo_iconst (v := 1) hx dX10_given_2 (by decide) ?_
  refine bo_seq 18 (fun a => [(0, .ref (bo_a x 0)), (1, .int p1)]) (fun a => [.int a, .ref (bo_a x 0)]) (fun a => σ) ?_ (fun a1 => ?_)
  · refine bo_icmp_lt hx 13 dX10_given_3 (by decide) ?_ ?_
    · refine bo_iconst (v := 1) hx dX10_given_13 (by decide) ?_
      refine bo_goto hx 18 dX10_given_14 (by decide) ?_
      exact bo_arr (fun h => h)
    · refine bo_iload_n hx dX10_given_6 rfl 1 rfl ?_
      refine bo_sipush (v := 192) hx dX10_given_7 (by decide) ?_
      refine bo_icmp_le hx 17 dX10_given_10 (by decide) ?_ ?_
      · refine bo_iconst (v := 0) hx dX10_given_17 (by decide) ?_
        exact bo_arr (fun h => h)
      · refine bo_iconst (v := 1) hx dX10_given_13 (by decide) ?_
        refine bo_goto hx 18 dX10_given_14 (by decide) ?_
        exact bo_arr (fun h => h)
  · refine bo_goR (z := false) hx (fun rr hh => bo_runV (As := [.int a1]) (S := []) hx dX10_given_18 lk_X10_218 mi_X10_refused bo_o_0 rfl rfl (kX10_refused (bo_l x) (bo_g x) hx.inj σ a1 rr hh) ⟨by decide, by decide⟩ rfl rfl (Nat.le_of_ble_eq_true rfl)) (fun v2 hv2 => ?_)
    refine bo_istore_n (L' := [(2, .int v2), (0, .ref (bo_a x 0)), (1, .int p1)]) hx dX10_given_21 rfl (by decide) rfl ?_
    refine bo_iload_n hx dX10_given_22 rfl 0 rfl ?_
    refine bo_if_eq hx 28 dX10_given_23 (by decide) ?_ ?_
    · refine bo_aload_n hx dX10_given_28 rfl 1 rfl ?_
      refine gf_X10_43 hx dX10_given_29 ?_
      refine bo_aload_n hx dX10_given_32 rfl 1 rfl ?_
      refine gf_X10_71 hx dX10_given_33 ?_
      refine bo_aload_n hx dX10_given_36 rfl 1 rfl ?_
      refine gf_X10_19 hx dX10_given_37 ?_
      refine bo_iload_n hx dX10_given_40 rfl 2 rfl ?_
      refine bo_goV hx (fun rr hh => bo_runV (As := [.ref (bo_a x (bo_inn (σ 0 9))), .ref (bo_a x 50), .int p1]) (S := []) hx dX10_given_41 lk_X10_229 mi_X9_run bo_o_17 rfl rfl (kX9_run (bo_l x) (bo_g x) hx.inj σ (bo_inn (σ 0 9)) 50 p1 (bo_inn_ok (σ 0 9)) bo_ev50 rr hh) ⟨by decide, by decide⟩ rfl rfl (Nat.le_of_ble_eq_true rfl)) (fun σ3 => ?_)
      refine bo_iconst (v := 0) hx dX10_given_44 (by decide) ?_
      refine bo_istore_n (L' := [(3, .int 0), (2, .int v2), (0, .ref (bo_a x 0)), (1, .int p1)]) hx dX10_given_45 rfl (by decide) rfl ?_
      refine bo_iconst (v := 0) hx dX10_given_46 (by decide) ?_
      refine bo_istore (L' := [(4, .int 0), (3, .int 0), (2, .int v2), (0, .ref (bo_a x 0)), (1, .int p1)]) hx dX10_given_47 (by decide) rfl ?_
      refine bo_sub (L' := [(0, .ref (bo_a x 0)), (1, .int p1), (3, .int 0), (4, .int 0)]) [3, 4, 1, 0] rfl ?_
      refine bo_seq 83 (fun a => [(3, .int a)]) (fun a => []) (fun a => σ3) (lX10_given_L49 x hx σ3 p1 bo_fuel 0 0) (fun a6 => ?_)
      refine bo_iload_n hx dX10_given_83 rfl 0 rfl ?_
      exact bo_retw dX10_given_84 (fun h => by cases h)
    · refine bo_iload_n hx dX10_given_26 rfl 0 rfl ?_
      exact bo_retw dX10_given_27 (fun h => by cases h)
theorem kX10_given (l : Launch) (g : bo_G) (hi : bo_inj g) (σ : bo_M) (p1 : Int32) : bo_CW l g yX10_given cX10_given 5 (some .int) 5 119 [.ref (g.2.2 0), .int p1] σ false (mX10_given σ p1) :=
  bo_metW rfl (Or.inl ⟨rfl, rfl⟩) (by decide) rfl hi (Nat.le_of_ble_eq_true rfl) (fun x e1 e2 hx => by subst e1; subst e2; exact bX10_given x hx σ p1)
-- BellRope.mistaken
theorem dX10_mistaken_0 : decode cX10_mistaken 0 = .ok (.iconst 0, 1) := by decide +kernel
theorem dX10_mistaken_1 : decode cX10_mistaken 1 = .ok (.istore_n 1, 1) := by decide +kernel
theorem dX10_mistaken_2 : decode cX10_mistaken 2 = .ok (.iconst 0, 1) := by decide +kernel
theorem dX10_mistaken_3 : decode cX10_mistaken 3 = .ok (.istore_n 2, 1) := by decide +kernel
theorem dX10_mistaken_4 : decode cX10_mistaken 4 = .ok (.iload_n 2, 1) := by decide +kernel
theorem dX10_mistaken_5 : decode cX10_mistaken 5 = .ok (.aload_n 0, 1) := by decide +kernel
theorem dX10_mistaken_6 : decode cX10_mistaken 6 = .ok (.getfield 19, 3) := by decide +kernel
theorem dX10_mistaken_9 : decode cX10_mistaken 9 = .ok (.invokevirtual 139, 3) := by decide +kernel
theorem dX10_mistaken_15 : decode cX10_mistaken 15 = .ok (.aload_n 0, 1) := by decide +kernel
theorem dX10_mistaken_16 : decode cX10_mistaken 16 = .ok (.getfield 19, 3) := by decide +kernel
theorem dX10_mistaken_19 : decode cX10_mistaken 19 = .ok (.iload_n 2, 1) := by decide +kernel
theorem dX10_mistaken_20 : decode cX10_mistaken 20 = .ok (.invokevirtual 195, 3) := by decide +kernel
theorem dX10_mistaken_23 : decode cX10_mistaken 23 = .ok (.istore_n 3, 1) := by decide +kernel
theorem dX10_mistaken_24 : decode cX10_mistaken 24 = .ok (.aload_n 0, 1) := by decide +kernel
theorem dX10_mistaken_25 : decode cX10_mistaken 25 = .ok (.getfield 71, 3) := by decide +kernel
theorem dX10_mistaken_28 : decode cX10_mistaken 28 = .ok (.iload_n 3, 1) := by decide +kernel
theorem dX10_mistaken_29 : decode cX10_mistaken 29 = .ok (.invokevirtual 253, 3) := by decide +kernel
theorem dX10_mistaken_35 : decode cX10_mistaken 35 = .ok (.aload_n 0, 1) := by decide +kernel
theorem dX10_mistaken_36 : decode cX10_mistaken 36 = .ok (.getfield 19, 3) := by decide +kernel
theorem dX10_mistaken_39 : decode cX10_mistaken 39 = .ok (.iload_n 2, 1) := by decide +kernel
theorem dX10_mistaken_40 : decode cX10_mistaken 40 = .ok (.invokevirtual 191, 3) := by decide +kernel
theorem dX10_mistaken_43 : decode cX10_mistaken 43 = .ok (.iload_n 3, 1) := by decide +kernel
theorem dX10_mistaken_47 : decode cX10_mistaken 47 = .ok (.iinc 1 1, 3) := by decide +kernel
theorem dX10_mistaken_44 : decode cX10_mistaken 44 = .ok (.if_icmp .eq 6, 3) := by decide +kernel
theorem dX10_mistaken_32 : decode cX10_mistaken 32 = .ok (.ifCond .eq 18, 3) := by decide +kernel
theorem dX10_mistaken_50 : decode cX10_mistaken 50 = .ok (.iinc 2 1, 3) := by decide +kernel
theorem dX10_mistaken_53 : decode cX10_mistaken 53 = .ok (.goto (-49), 3) := by decide +kernel
theorem dX10_mistaken_12 : decode cX10_mistaken 12 = .ok (.if_icmp .ge 44, 3) := by decide +kernel
theorem dX10_mistaken_56 : decode cX10_mistaken 56 = .ok (.iload_n 1, 1) := by decide +kernel
theorem dX10_mistaken_57 : decode cX10_mistaken 57 = .ok (.ireturn, 1) := by decide +kernel
theorem lX10_mistaken_L4 (x : bo_X) (hx : bo_OK x cX10_mistaken RX10 4 2 44) (σ : bo_M) : ∀ (n : Nat) (w1 : Int32) (w2 : Int32), bo_D x 4 [(0, .ref (bo_a x 0)), (1, .int w1), (2, .int w2)] [] σ (mX10_mistaken_L4 σ n w1 w2) (fun a => bo_N x 56 [(1, .int a)] [] σ) := by
  intro n
  induction n with
  | zero => intro w1 w2; exact bo_none
  | succ n ih =>
    intro w1 w2
    rw [mX10_mistaken_L4]
    refine bo_iload_n hx dX10_mistaken_4 rfl 2 rfl ?_
    refine bo_aload_n hx dX10_mistaken_5 rfl 0 rfl ?_
    refine gf_X10_19 hx dX10_mistaken_6 ?_
    refine bo_goR (z := false) hx (fun rr hh => bo_runV (As := []) (S := [.int w2]) hx dX10_mistaken_9 lk_X10_139 mi_X2_logs bo_ev50.o rfl rfl (kX2_logs (bo_l x) (bo_g x) hx.inj σ 50 bo_ev50 rr hh) ⟨by decide, by decide⟩ rfl rfl (Nat.le_of_ble_eq_true rfl)) (fun v1 hv1 => ?_)
    refine bo_icmp_ge hx 56 dX10_mistaken_12 (by decide) ?_ ?_
    · refine bo_sub (L' := [(1, .int w1)]) [1] rfl ?_
      exact bo_arr (fun h => h)
    · refine bo_aload_n hx dX10_mistaken_15 rfl 0 rfl ?_
      refine gf_X10_19 hx dX10_mistaken_16 ?_
      refine bo_iload_n hx dX10_mistaken_19 rfl 2 rfl ?_
      refine bo_goR (z := false) hx (fun rr hh => bo_runV (As := [.int w2]) (S := []) hx dX10_mistaken_20 lk_X10_195 mi_X2_rungAgo bo_ev50.o rfl rfl (kX2_rungAgo (bo_l x) (bo_g x) hx.inj σ 50 w2 bo_ev50 rr hh) ⟨by decide, by decide⟩ rfl rfl (Nat.le_of_ble_eq_true rfl)) (fun v2 hv2 => ?_)
      refine bo_istore_n (L' := [(3, .int v2), (0, .ref (bo_a x 0)), (1, .int w1), (2, .int w2)]) hx dX10_mistaken_23 rfl (by decide) rfl ?_
      refine bo_aload_n hx dX10_mistaken_24 rfl 1 rfl ?_
      refine gf_X10_71 hx dX10_mistaken_25 ?_
      refine bo_iload_n hx dX10_mistaken_28 rfl 0 rfl ?_
      refine bo_goR (z := false) hx (fun rr hh => bo_runV (As := [.int v2]) (S := []) hx dX10_mistaken_29 lk_X10_253 mi_X4_signalsOf (bo_inn_ok (σ 0 9)).o rfl rfl (kX4_signalsOf (bo_l x) (bo_g x) hx.inj σ (bo_inn (σ 0 9)) v2 (bo_inn_ok (σ 0 9)) rr hh) ⟨by decide, by decide⟩ rfl rfl (Nat.le_of_ble_eq_true rfl)) (fun v3 hv3 => ?_)
      refine bo_seq 50 (fun a => [(0, .ref (bo_a x 0)), (1, .int a), (2, .int w2)]) (fun a => []) (fun a => σ) ?_ (fun a4 => ?_)
      · refine bo_if_eq hx 50 dX10_mistaken_32 (by decide) ?_ ?_
        · refine bo_sub (L' := [(0, .ref (bo_a x 0)), (1, .int w1), (2, .int w2)]) [1, 2, 3] rfl ?_
          exact bo_arr (fun h => h)
        · refine bo_aload_n hx dX10_mistaken_35 rfl 1 rfl ?_
          refine gf_X10_19 hx dX10_mistaken_36 ?_
          refine bo_iload_n hx dX10_mistaken_39 rfl 3 rfl ?_
          refine bo_goR (z := false) hx (fun rr hh => bo_runV (As := [.int w2]) (S := []) hx dX10_mistaken_40 lk_X10_191 mi_X2_heardAgo bo_ev50.o rfl rfl (kX2_heardAgo (bo_l x) (bo_g x) hx.inj σ 50 w2 bo_ev50 rr hh) ⟨by decide, by decide⟩ rfl rfl (Nat.le_of_ble_eq_true rfl)) (fun v5 hv5 => ?_)
          refine bo_iload_n hx dX10_mistaken_43 rfl 0 rfl ?_
          refine bo_icmp_eq hx 50 dX10_mistaken_44 (by decide) ?_ ?_
          · refine bo_sub (L' := [(0, .ref (bo_a x 0)), (1, .int w1), (2, .int w2)]) [1, 2, 3] rfl ?_
            exact bo_arr (fun h => h)
          · refine bo_iinc (L' := [(1, .int (w1 + 1)), (3, .int v2), (0, .ref (bo_a x 0)), (2, .int w2)]) (w := (w1 + 1)) hx dX10_mistaken_47 2 rfl rfl (by decide) rfl ?_
            refine bo_sub (L' := [(0, .ref (bo_a x 0)), (1, .int (w1 + 1)), (2, .int w2)]) [2, 0, 3] rfl ?_
            exact bo_arr (fun h => h)
      · refine bo_iinc (L' := [(2, .int (w2 + 1)), (0, .ref (bo_a x 0)), (1, .int a4)]) (w := (w2 + 1)) hx dX10_mistaken_50 2 rfl rfl (by decide) rfl ?_
        refine bo_goto hx 4 dX10_mistaken_53 (by decide) ?_
        refine bo_sub (L' := [(0, .ref (bo_a x 0)), (1, .int a4), (2, .int (w2 + 1))]) [1, 2, 0] rfl ?_
        exact ih a4 (w2 + 1)
theorem bX10_mistaken (x : bo_X) (hx : bo_OK x cX10_mistaken RX10 4 2 44) (σ : bo_M) : bo_D x 0 [(0, .ref (bo_a x 0))] [] σ (mX10_mistaken σ) (bo_Ri x cX10_mistaken σ false) := by
  unfold mX10_mistaken
  refine bo_iconst (v := 0) hx dX10_mistaken_0 (by decide) ?_
  refine bo_istore_n (L' := [(1, .int 0), (0, .ref (bo_a x 0))]) hx dX10_mistaken_1 rfl (by decide) rfl ?_
  refine bo_iconst (v := 0) hx dX10_mistaken_2 (by decide) ?_
  refine bo_istore_n (L' := [(2, .int 0), (1, .int 0), (0, .ref (bo_a x 0))]) hx dX10_mistaken_3 rfl (by decide) rfl ?_
  refine bo_sub (L' := [(0, .ref (bo_a x 0)), (1, .int 0), (2, .int 0)]) [2, 1, 0] rfl ?_
  refine bo_seq 56 (fun a => [(1, .int a)]) (fun a => []) (fun a => σ) (lX10_mistaken_L4 x hx σ bo_fuel 0 0) (fun a6 => ?_)
  refine bo_iload_n hx dX10_mistaken_56 rfl 0 rfl ?_
  exact bo_ret dX10_mistaken_57 (fun h => by cases h)
theorem kX10_mistaken (l : Launch) (g : bo_G) (hi : bo_inj g) (σ : bo_M) : bo_CR l g yX10_mistaken cX10_mistaken 4 (some .int) 2 44 [.ref (g.2.2 0)] σ false (mX10_mistaken σ) :=
  bo_metR rfl (Or.inl ⟨rfl, rfl⟩) (by decide) rfl hi (Nat.le_of_ble_eq_true rfl) (fun x e1 e2 hx => by subst e1; subst e2; exact bX10_mistaken x hx σ)
-- BellRope$Inn.sets
theorem dX4_sets_0 : decode cX4_sets 0 = .ok (.iconst 1, 1) := by decide +kernel
theorem dX4_sets_1 : decode cX4_sets 1 = .ok (.aload_n 0, 1) := by decide +kernel
theorem dX4_sets_2 : decode cX4_sets 2 = .ok (.getfield 47, 3) := by decide +kernel
theorem dX4_sets_5 : decode cX4_sets 5 = .ok (.ishl, 1) := by decide +kernel
theorem dX4_sets_6 : decode cX4_sets 6 = .ok (.ireturn, 1) := by decide +kernel
theorem bX4_sets (x : bo_X) (hx : bo_OK x cX4_sets RX4 1 0 0) (σ : bo_M) (o : Nat) (ho : bo_isInn o) : bo_D x 0 [(0, .ref (bo_a x o))] [] σ (mX4_sets σ o) (bo_Ri x cX4_sets σ false) := by
  unfold mX4_sets
  refine bo_iconst (v := 1) hx dX4_sets_0 (by decide) ?_
  refine bo_aload_n hx dX4_sets_1 rfl 0 rfl ?_
  refine gf_X4_47 hx ho dX4_sets_2 ?_
  refine bo_ishl hx dX4_sets_5 ?_
  exact bo_ret dX4_sets_6 (fun h => by cases h)
theorem kX4_sets (l : Launch) (g : bo_G) (hi : bo_inj g) (σ : bo_M) (o : Nat) (ho : bo_isInn o) : bo_CR l g yX4_sets cX4_sets 1 (some .int) 0 0 [.ref (g.2.2 o)] σ false (mX4_sets σ o) :=
  bo_metR rfl (Or.inl ⟨rfl, rfl⟩) (by decide) rfl hi (Nat.le_of_ble_eq_true rfl) (fun x e1 e2 hx => by subst e1; subst e2; exact bX4_sets x hx σ o ho)
-- BellRope.vespers
theorem dX10_vespers_0 : decode cX10_vespers 0 = .ok (.aload_n 0, 1) := by decide +kernel
theorem dX10_vespers_1 : decode cX10_vespers 1 = .ok (.iload_n 1, 1) := by decide +kernel
theorem dX10_vespers_2 : decode cX10_vespers 2 = .ok (.iconst 1, 1) := by decide +kernel
theorem dX10_vespers_21 : decode cX10_vespers 21 = .ok (.iconst 1, 1) := by decide +kernel
theorem dX10_vespers_22 : decode cX10_vespers 22 = .ok (.goto 4, 3) := by decide +kernel
theorem dX10_vespers_6 : decode cX10_vespers 6 = .ok (.iload_n 1, 1) := by decide +kernel
theorem dX10_vespers_7 : decode cX10_vespers 7 = .ok (.bipush 16, 2) := by decide +kernel
theorem dX10_vespers_12 : decode cX10_vespers 12 = .ok (.iload_n 2, 1) := by decide +kernel
theorem dX10_vespers_16 : decode cX10_vespers 16 = .ok (.iload_n 2, 1) := by decide +kernel
theorem dX10_vespers_17 : decode cX10_vespers 17 = .ok (.iconst 1, 1) := by decide +kernel
theorem dX10_vespers_25 : decode cX10_vespers 25 = .ok (.iconst 0, 1) := by decide +kernel
theorem dX10_vespers_18 : decode cX10_vespers 18 = .ok (.if_icmp .le 7, 3) := by decide +kernel
theorem dX10_vespers_13 : decode cX10_vespers 13 = .ok (.ifCond .lt 8, 3) := by decide +kernel
theorem dX10_vespers_9 : decode cX10_vespers 9 = .ok (.if_icmp .gt 12, 3) := by decide +kernel
theorem dX10_vespers_3 : decode cX10_vespers 3 = .ok (.if_icmp .lt 18, 3) := by decide +kernel
theorem dX10_vespers_26 : decode cX10_vespers 26 = .ok (.invokevirtual 218, 3) := by decide +kernel
theorem dX10_vespers_29 : decode cX10_vespers 29 = .ok (.istore_n 3, 1) := by decide +kernel
theorem dX10_vespers_30 : decode cX10_vespers 30 = .ok (.iload_n 3, 1) := by decide +kernel
theorem dX10_vespers_36 : decode cX10_vespers 36 = .ok (.aload_n 0, 1) := by decide +kernel
theorem dX10_vespers_37 : decode cX10_vespers 37 = .ok (.getfield 19, 3) := by decide +kernel
theorem dX10_vespers_40 : decode cX10_vespers 40 = .ok (.aload_n 0, 1) := by decide +kernel
theorem dX10_vespers_41 : decode cX10_vespers 41 = .ok (.getfield 71, 3) := by decide +kernel
theorem dX10_vespers_44 : decode cX10_vespers 44 = .ok (.aload_n 0, 1) := by decide +kernel
theorem dX10_vespers_45 : decode cX10_vespers 45 = .ok (.getfield 19, 3) := by decide +kernel
theorem dX10_vespers_48 : decode cX10_vespers 48 = .ok (.getfield 120, 3) := by decide +kernel
theorem dX10_vespers_51 : decode cX10_vespers 51 = .ok (.invokevirtual 256, 3) := by decide +kernel
theorem dX10_vespers_54 : decode cX10_vespers 54 = .ok (.istore 4, 2) := by decide +kernel
theorem dX10_vespers_56 : decode cX10_vespers 56 = .ok (.aload_n 0, 1) := by decide +kernel
theorem dX10_vespers_57 : decode cX10_vespers 57 = .ok (.getfield 19, 3) := by decide +kernel
theorem dX10_vespers_60 : decode cX10_vespers 60 = .ok (.aload_n 0, 1) := by decide +kernel
theorem dX10_vespers_61 : decode cX10_vespers 61 = .ok (.getfield 71, 3) := by decide +kernel
theorem dX10_vespers_64 : decode cX10_vespers 64 = .ok (.invokevirtual 260, 3) := by decide +kernel
theorem dX10_vespers_67 : decode cX10_vespers 67 = .ok (.istore 5, 2) := by decide +kernel
theorem dX10_vespers_69 : decode cX10_vespers 69 = .ok (.aload_n 0, 1) := by decide +kernel
theorem dX10_vespers_70 : decode cX10_vespers 70 = .ok (.getfield 19, 3) := by decide +kernel
theorem dX10_vespers_73 : decode cX10_vespers 73 = .ok (.aload_n 0, 1) := by decide +kernel
theorem dX10_vespers_74 : decode cX10_vespers 74 = .ok (.getfield 71, 3) := by decide +kernel
theorem dX10_vespers_77 : decode cX10_vespers 77 = .ok (.invokevirtual 176, 3) := by decide +kernel
theorem dX10_vespers_80 : decode cX10_vespers 80 = .ok (.istore 6, 2) := by decide +kernel
theorem dX10_vespers_82 : decode cX10_vespers 82 = .ok (.iconst (-1), 1) := by decide +kernel
theorem dX10_vespers_83 : decode cX10_vespers 83 = .ok (.istore 7, 2) := by decide +kernel
theorem dX10_vespers_85 : decode cX10_vespers 85 = .ok (.iconst (-1), 1) := by decide +kernel
theorem dX10_vespers_86 : decode cX10_vespers 86 = .ok (.istore 8, 2) := by decide +kernel
theorem dX10_vespers_88 : decode cX10_vespers 88 = .ok (.iconst 0, 1) := by decide +kernel
theorem dX10_vespers_89 : decode cX10_vespers 89 = .ok (.istore 9, 2) := by decide +kernel
theorem dX10_vespers_91 : decode cX10_vespers 91 = .ok (.iload 9, 2) := by decide +kernel
theorem dX10_vespers_93 : decode cX10_vespers 93 = .ok (.aload_n 0, 1) := by decide +kernel
theorem dX10_vespers_94 : decode cX10_vespers 94 = .ok (.getfield 71, 3) := by decide +kernel
theorem dX10_vespers_97 : decode cX10_vespers 97 = .ok (.invokevirtual 263, 3) := by decide +kernel
theorem dX10_vespers_103 : decode cX10_vespers 103 = .ok (.iload 9, 2) := by decide +kernel
theorem dX10_vespers_105 : decode cX10_vespers 105 = .ok (.aload_n 0, 1) := by decide +kernel
theorem dX10_vespers_106 : decode cX10_vespers 106 = .ok (.getfield 19, 3) := by decide +kernel
theorem dX10_vespers_109 : decode cX10_vespers 109 = .ok (.getfield 123, 3) := by decide +kernel
theorem dX10_vespers_112 : decode cX10_vespers 112 = .ok (.iconst (-1), 1) := by decide +kernel
theorem dX10_vespers_113 : decode cX10_vespers 113 = .ok (.ixor, 1) := by decide +kernel
theorem dX10_vespers_114 : decode cX10_vespers 114 = .ok (.iand, 1) := by decide +kernel
theorem dX10_vespers_115 : decode cX10_vespers 115 = .ok (.invokestatic 248, 3) := by decide +kernel
theorem dX10_vespers_118 : decode cX10_vespers 118 = .ok (.iload 9, 2) := by decide +kernel
theorem dX10_vespers_120 : decode cX10_vespers 120 = .ok (.iload 5, 2) := by decide +kernel
theorem dX10_vespers_122 : decode cX10_vespers 122 = .ok (.iand, 1) := by decide +kernel
theorem dX10_vespers_123 : decode cX10_vespers 123 = .ok (.invokestatic 248, 3) := by decide +kernel
theorem dX10_vespers_126 : decode cX10_vespers 126 = .ok (.iadd, 1) := by decide +kernel
theorem dX10_vespers_127 : decode cX10_vespers 127 = .ok (.istore 10, 2) := by decide +kernel
theorem dX10_vespers_129 : decode cX10_vespers 129 = .ok (.iload 4, 2) := by decide +kernel
theorem dX10_vespers_131 : decode cX10_vespers 131 = .ok (.iload 6, 2) := by decide +kernel
theorem dX10_vespers_133 : decode cX10_vespers 133 = .ok (.iload 9, 2) := by decide +kernel
theorem dX10_vespers_135 : decode cX10_vespers 135 = .ok (.ior, 1) := by decide +kernel
theorem dX10_vespers_136 : decode cX10_vespers 136 = .ok (.iand, 1) := by decide +kernel
theorem dX10_vespers_137 : decode cX10_vespers 137 = .ok (.invokestatic 248, 3) := by decide +kernel
theorem dX10_vespers_140 : decode cX10_vespers 140 = .ok (.istore 11, 2) := by decide +kernel
theorem dX10_vespers_142 : decode cX10_vespers 142 = .ok (.iload 7, 2) := by decide +kernel
theorem dX10_vespers_144 : decode cX10_vespers 144 = .ok (.iconst (-1), 1) := by decide +kernel
theorem dX10_vespers_155 : decode cX10_vespers 155 = .ok (.aload_n 0, 1) := by decide +kernel
theorem dX10_vespers_156 : decode cX10_vespers 156 = .ok (.getfield 19, 3) := by decide +kernel
theorem dX10_vespers_159 : decode cX10_vespers 159 = .ok (.aload_n 0, 1) := by decide +kernel
theorem dX10_vespers_160 : decode cX10_vespers 160 = .ok (.getfield 71, 3) := by decide +kernel
theorem dX10_vespers_163 : decode cX10_vespers 163 = .ok (.iload 11, 2) := by decide +kernel
theorem dX10_vespers_165 : decode cX10_vespers 165 = .ok (.invokevirtual 266, 3) := by decide +kernel
theorem dX10_vespers_168 : decode cX10_vespers 168 = .ok (.iload_n 1, 1) := by decide +kernel
theorem dX10_vespers_172 : decode cX10_vespers 172 = .ok (.iload 10, 2) := by decide +kernel
theorem dX10_vespers_174 : decode cX10_vespers 174 = .ok (.istore 7, 2) := by decide +kernel
theorem dX10_vespers_176 : decode cX10_vespers 176 = .ok (.iload 9, 2) := by decide +kernel
theorem dX10_vespers_178 : decode cX10_vespers 178 = .ok (.istore 8, 2) := by decide +kernel
theorem dX10_vespers_169 : decode cX10_vespers 169 = .ok (.if_icmp .lt 11, 3) := by decide +kernel
theorem dX10_vespers_148 : decode cX10_vespers 148 = .ok (.iload 10, 2) := by decide +kernel
theorem dX10_vespers_150 : decode cX10_vespers 150 = .ok (.iload 7, 2) := by decide +kernel
theorem dX10_vespers_152 : decode cX10_vespers 152 = .ok (.if_icmp .ge 28, 3) := by decide +kernel
theorem dX10_vespers_145 : decode cX10_vespers 145 = .ok (.if_icmp .eq 10, 3) := by decide +kernel
theorem dX10_vespers_180 : decode cX10_vespers 180 = .ok (.iinc 9 1, 3) := by decide +kernel
theorem dX10_vespers_183 : decode cX10_vespers 183 = .ok (.goto (-92), 3) := by decide +kernel
theorem dX10_vespers_100 : decode cX10_vespers 100 = .ok (.if_icmp .ge 86, 3) := by decide +kernel
theorem dX10_vespers_186 : decode cX10_vespers 186 = .ok (.iload_n 2, 1) := by decide +kernel
theorem dX10_vespers_195 : decode cX10_vespers 195 = .ok (.iload 8, 2) := by decide +kernel
theorem dX10_vespers_197 : decode cX10_vespers 197 = .ok (.ireturn, 1) := by decide +kernel
theorem dX10_vespers_190 : decode cX10_vespers 190 = .ok (.iload 7, 2) := by decide +kernel
theorem dX10_vespers_192 : decode cX10_vespers 192 = .ok (.goto 5, 3) := by decide +kernel
theorem dX10_vespers_187 : decode cX10_vespers 187 = .ok (.ifCond .ne 8, 3) := by decide +kernel
theorem dX10_vespers_34 : decode cX10_vespers 34 = .ok (.iload_n 3, 1) := by decide +kernel
theorem dX10_vespers_35 : decode cX10_vespers 35 = .ok (.ireturn, 1) := by decide +kernel
theorem dX10_vespers_31 : decode cX10_vespers 31 = .ok (.ifCond .eq 5, 3) := by decide +kernel
theorem lX10_vespers_L91 (x : bo_X) (hx : bo_OK x cX10_vespers RX10 12 3 70) (σ : bo_M) (f1 : Int32) (f2 : Int32) (f4 : Int32) (f5 : Int32) (f6 : Int32) : ∀ (n : Nat) (w7 : Int32) (w8 : Int32) (w9 : Int32), bo_D x 91 [(0, .ref (bo_a x 0)), (1, .int f1), (2, .int f2), (4, .int f4), (5, .int f5), (6, .int f6), (7, .int w7), (8, .int w8), (9, .int w9)] [] σ (mX10_vespers_L91 σ f1 f2 f4 f5 f6 n w7 w8 w9) (fun a => bo_N x 186 [(2, .int f2), (7, .int a.1), (8, .int a.2)] [] σ) := by
  intro n
  induction n with
  | zero => intro w7 w8 w9; exact bo_none
  | succ n ih =>
    intro w7 w8 w9
    rw [mX10_vespers_L91]
    refine bo_iload hx dX10_vespers_91 8 rfl ?_
    refine bo_aload_n hx dX10_vespers_93 rfl 0 rfl ?_
    refine gf_X10_71 hx dX10_vespers_94 ?_
    refine bo_goR (z := false) hx (fun rr hh => bo_runV (As := []) (S := [.int w9]) hx dX10_vespers_97 lk_X10_263 mi_X4_sets (bo_inn_ok (σ 0 9)).o rfl rfl (kX4_sets (bo_l x) (bo_g x) hx.inj σ (bo_inn (σ 0 9)) (bo_inn_ok (σ 0 9)) rr hh) ⟨by decide, by decide⟩ rfl rfl (Nat.le_of_ble_eq_true rfl)) (fun v6 hv6 => ?_)
    refine bo_icmp_ge hx 186 dX10_vespers_100 (by decide) ?_ ?_
    · refine bo_sub (L' := [(2, .int f2), (7, .int w7), (8, .int w8)]) [2, 6, 7] rfl ?_
      exact bo_arr (fun h => h)
    · refine bo_iload hx dX10_vespers_103 8 rfl ?_
      refine bo_aload_n hx dX10_vespers_105 rfl 0 rfl ?_
      refine gf_X10_19 hx dX10_vespers_106 ?_
      refine gf_X10_123 hx bo_ev50 dX10_vespers_109 ?_
      refine bo_iconst (v := (-1)) hx dX10_vespers_112 (by decide) ?_
      refine bo_ixor hx dX10_vespers_113 ?_
      refine bo_iand hx dX10_vespers_114 ?_
      refine bo_goR (z := false) hx (fun rr hh => bo_runS (As := [.int (w9 &&& ((σ 50 5) ^^^ (-1)))]) (S := []) hx dX10_vespers_115 lk_X10_248 ms_J6_bitCount_0f7a4 (kJ6_bitCount_0f7a4 (bo_l x) (bo_g x) hx.inj σ (w9 &&& ((σ 50 5) ^^^ (-1))) rr hh) ⟨by decide, by decide⟩ rfl rfl (Nat.le_of_ble_eq_true rfl)) (fun v7 hv7 => ?_)
      refine bo_iload hx dX10_vespers_118 8 rfl ?_
      refine bo_iload hx dX10_vespers_120 4 rfl ?_
      refine bo_iand hx dX10_vespers_122 ?_
      refine bo_goR (z := false) hx (fun rr hh => bo_runS (As := [.int (w9 &&& f5)]) (S := [.int v7]) hx dX10_vespers_123 lk_X10_248 ms_J6_bitCount_0f7a4 (kJ6_bitCount_0f7a4 (bo_l x) (bo_g x) hx.inj σ (w9 &&& f5) rr hh) ⟨by decide, by decide⟩ rfl rfl (Nat.le_of_ble_eq_true rfl)) (fun v8 hv8 => ?_)
      refine bo_iadd hx dX10_vespers_126 ?_
      refine bo_istore (L' := [(10, .int (v7 + v8)), (0, .ref (bo_a x 0)), (1, .int f1), (2, .int f2), (4, .int f4), (5, .int f5), (6, .int f6), (7, .int w7), (8, .int w8), (9, .int w9)]) hx dX10_vespers_127 (by decide) rfl ?_
      refine bo_iload hx dX10_vespers_129 4 rfl ?_
      refine bo_iload hx dX10_vespers_131 6 rfl ?_
      refine bo_iload hx dX10_vespers_133 9 rfl ?_
      refine bo_ior hx dX10_vespers_135 ?_
      refine bo_iand hx dX10_vespers_136 ?_
      refine bo_goR (z := false) hx (fun rr hh => bo_runS (As := [.int (f4 &&& (f6 ||| w9))]) (S := []) hx dX10_vespers_137 lk_X10_248 ms_J6_bitCount_0f7a4 (kJ6_bitCount_0f7a4 (bo_l x) (bo_g x) hx.inj σ (f4 &&& (f6 ||| w9)) rr hh) ⟨by decide, by decide⟩ rfl rfl (Nat.le_of_ble_eq_true rfl)) (fun v9 hv9 => ?_)
      refine bo_istore (L' := [(11, .int v9), (10, .int (v7 + v8)), (0, .ref (bo_a x 0)), (1, .int f1), (2, .int f2), (4, .int f4), (5, .int f5), (6, .int f6), (7, .int w7), (8, .int w8), (9, .int w9)]) hx dX10_vespers_140 (by decide) rfl ?_
      refine bo_iload hx dX10_vespers_142 8 rfl ?_
      refine bo_iconst (v := (-1)) hx dX10_vespers_144 (by decide) ?_
      refine bo_seq 180 (fun a => [(0, .ref (bo_a x 0)), (1, .int f1), (2, .int f2), (4, .int f4), (5, .int f5), (6, .int f6), (7, .int a.1), (8, .int a.2), (9, .int w9)]) (fun a => []) (fun a => σ) ?_ (fun a10 => ?_)
      · refine bo_icmp_eq hx 155 dX10_vespers_145 (by decide) ?_ ?_
        · refine bo_aload_n hx dX10_vespers_155 rfl 2 rfl ?_
          refine gf_X10_19 hx dX10_vespers_156 ?_
          refine bo_aload_n hx dX10_vespers_159 rfl 2 rfl ?_
          refine gf_X10_71 hx dX10_vespers_160 ?_
          refine bo_iload hx dX10_vespers_163 0 rfl ?_
          refine bo_goR (z := false) hx (fun rr hh => bo_runV (As := [.ref (bo_a x (bo_inn (σ 0 9))), .int v9]) (S := []) hx dX10_vespers_165 lk_X10_266 mi_X2_heardOf bo_ev50.o rfl rfl (kX2_heardOf (bo_l x) (bo_g x) hx.inj σ 50 (bo_inn (σ 0 9)) v9 bo_ev50 (bo_inn_ok (σ 0 9)) rr hh) ⟨by decide, by decide⟩ rfl rfl (Nat.le_of_ble_eq_true rfl)) (fun v11 hv11 => ?_)
          refine bo_iload_n hx dX10_vespers_168 rfl 3 rfl ?_
          refine bo_icmp_lt hx 180 dX10_vespers_169 (by decide) ?_ ?_
          · refine bo_sub (L' := [(0, .ref (bo_a x 0)), (1, .int f1), (2, .int f2), (4, .int f4), (5, .int f5), (6, .int f6), (7, .int w7), (8, .int w8), (9, .int w9)]) [2, 3, 4, 5, 6, 7, 8, 9, 10] rfl ?_
            exact bo_arr (fun h => h)
          · refine bo_iload hx dX10_vespers_172 1 rfl ?_
            refine bo_istore (L' := [(7, .int (v7 + v8)), (11, .int v9), (10, .int (v7 + v8)), (0, .ref (bo_a x 0)), (1, .int f1), (2, .int f2), (4, .int f4), (5, .int f5), (6, .int f6), (8, .int w8), (9, .int w9)]) hx dX10_vespers_174 (by decide) rfl ?_
            refine bo_iload hx dX10_vespers_176 10 rfl ?_
            refine bo_istore (L' := [(8, .int w9), (7, .int (v7 + v8)), (11, .int v9), (10, .int (v7 + v8)), (0, .ref (bo_a x 0)), (1, .int f1), (2, .int f2), (4, .int f4), (5, .int f5), (6, .int f6), (9, .int w9)]) hx dX10_vespers_178 (by decide) rfl ?_
            refine bo_sub (L' := [(0, .ref (bo_a x 0)), (1, .int f1), (2, .int f2), (4, .int f4), (5, .int f5), (6, .int f6), (7, .int (v7 + v8)), (8, .int w9), (9, .int w9)]) [4, 5, 6, 7, 8, 9, 1, 0, 10] rfl ?_
            exact bo_arr (fun h => h)
        · refine bo_iload hx dX10_vespers_148 1 rfl ?_
          refine bo_iload hx dX10_vespers_150 8 rfl ?_
          refine bo_icmp_ge hx 180 dX10_vespers_152 (by decide) ?_ ?_
          · refine bo_sub (L' := [(0, .ref (bo_a x 0)), (1, .int f1), (2, .int f2), (4, .int f4), (5, .int f5), (6, .int f6), (7, .int w7), (8, .int w8), (9, .int w9)]) [2, 3, 4, 5, 6, 7, 8, 9, 10] rfl ?_
            exact bo_arr (fun h => h)
          · refine bo_aload_n hx dX10_vespers_155 rfl 2 rfl ?_
            refine gf_X10_19 hx dX10_vespers_156 ?_
            refine bo_aload_n hx dX10_vespers_159 rfl 2 rfl ?_
            refine gf_X10_71 hx dX10_vespers_160 ?_
            refine bo_iload hx dX10_vespers_163 0 rfl ?_
            refine bo_goR (z := false) hx (fun rr hh => bo_runV (As := [.ref (bo_a x (bo_inn (σ 0 9))), .int v9]) (S := []) hx dX10_vespers_165 lk_X10_266 mi_X2_heardOf bo_ev50.o rfl rfl (kX2_heardOf (bo_l x) (bo_g x) hx.inj σ 50 (bo_inn (σ 0 9)) v9 bo_ev50 (bo_inn_ok (σ 0 9)) rr hh) ⟨by decide, by decide⟩ rfl rfl (Nat.le_of_ble_eq_true rfl)) (fun v12 hv12 => ?_)
            refine bo_iload_n hx dX10_vespers_168 rfl 3 rfl ?_
            refine bo_icmp_lt hx 180 dX10_vespers_169 (by decide) ?_ ?_
            · refine bo_sub (L' := [(0, .ref (bo_a x 0)), (1, .int f1), (2, .int f2), (4, .int f4), (5, .int f5), (6, .int f6), (7, .int w7), (8, .int w8), (9, .int w9)]) [2, 3, 4, 5, 6, 7, 8, 9, 10] rfl ?_
              exact bo_arr (fun h => h)
            · refine bo_iload hx dX10_vespers_172 1 rfl ?_
              refine bo_istore (L' := [(7, .int (v7 + v8)), (11, .int v9), (10, .int (v7 + v8)), (0, .ref (bo_a x 0)), (1, .int f1), (2, .int f2), (4, .int f4), (5, .int f5), (6, .int f6), (8, .int w8), (9, .int w9)]) hx dX10_vespers_174 (by decide) rfl ?_
              refine bo_iload hx dX10_vespers_176 10 rfl ?_
              refine bo_istore (L' := [(8, .int w9), (7, .int (v7 + v8)), (11, .int v9), (10, .int (v7 + v8)), (0, .ref (bo_a x 0)), (1, .int f1), (2, .int f2), (4, .int f4), (5, .int f5), (6, .int f6), (9, .int w9)]) hx dX10_vespers_178 (by decide) rfl ?_
              refine bo_sub (L' := [(0, .ref (bo_a x 0)), (1, .int f1), (2, .int f2), (4, .int f4), (5, .int f5), (6, .int f6), (7, .int (v7 + v8)), (8, .int w9), (9, .int w9)]) [4, 5, 6, 7, 8, 9, 1, 0, 10] rfl ?_
              exact bo_arr (fun h => h)
      · refine bo_iinc (L' := [(9, .int (w9 + 1)), (0, .ref (bo_a x 0)), (1, .int f1), (2, .int f2), (4, .int f4), (5, .int f5), (6, .int f6), (7, .int a10.1), (8, .int a10.2)]) (w := (w9 + 1)) hx dX10_vespers_180 8 rfl rfl (by decide) rfl ?_
        refine bo_goto hx 91 dX10_vespers_183 (by decide) ?_
        refine bo_sub (L' := [(0, .ref (bo_a x 0)), (1, .int f1), (2, .int f2), (4, .int f4), (5, .int f5), (6, .int f6), (7, .int a10.1), (8, .int a10.2), (9, .int (w9 + 1))]) [1, 2, 3, 4, 5, 6, 7, 8, 0] rfl ?_
        exact ih a10.1 a10.2 (w9 + 1)
theorem bX10_vespers (x : bo_X) (hx : bo_OK x cX10_vespers RX10 12 3 70) (σ : bo_M) (p1 : Int32) (p2 : Int32) : bo_D x 0 [(0, .ref (bo_a x 0)), (1, .int p1), (2, .int p2)] [] σ (mX10_vespers σ p1 p2) (bo_Ri x cX10_vespers σ false) := by
  unfold mX10_vespers
  refine bo_aload_n hx dX10_vespers_0 rfl 0 rfl ?_
  refine bo_iload_n hx dX10_vespers_1 rfl 1 rfl ?_
  refine bo_iconst (v := 1) hx dX10_vespers_2 (by decide) ?_
  refine bo_seq 26 (fun a => [(0, .ref (bo_a x 0)), (1, .int p1), (2, .int p2)]) (fun a => [.int a, .ref (bo_a x 0)]) (fun a => σ) ?_ (fun a1 => ?_)
  · refine bo_icmp_lt hx 21 dX10_vespers_3 (by decide) ?_ ?_
    · refine bo_iconst (v := 1) hx dX10_vespers_21 (by decide) ?_
      refine bo_goto hx 26 dX10_vespers_22 (by decide) ?_
      exact bo_arr (fun h => h)
    · refine bo_iload_n hx dX10_vespers_6 rfl 1 rfl ?_
      refine bo_bipush (v := 16) hx dX10_vespers_7 (by decide) ?_
      refine bo_icmp_gt hx 21 dX10_vespers_9 (by decide) ?_ ?_
      · refine bo_iconst (v := 1) hx dX10_vespers_21 (by decide) ?_
        refine bo_goto hx 26 dX10_vespers_22 (by decide) ?_
        exact bo_arr (fun h => h)
      · refine bo_iload_n hx dX10_vespers_12 rfl 2 rfl ?_
        refine bo_if_lt hx 21 dX10_vespers_13 (by decide) ?_ ?_
        · refine bo_iconst (v := 1) hx dX10_vespers_21 (by decide) ?_
          refine bo_goto hx 26 dX10_vespers_22 (by decide) ?_
          exact bo_arr (fun h => h)
        · refine bo_iload_n hx dX10_vespers_16 rfl 2 rfl ?_
          refine bo_iconst (v := 1) hx dX10_vespers_17 (by decide) ?_
          refine bo_icmp_le hx 25 dX10_vespers_18 (by decide) ?_ ?_
          · refine bo_iconst (v := 0) hx dX10_vespers_25 (by decide) ?_
            exact bo_arr (fun h => h)
          · refine bo_iconst (v := 1) hx dX10_vespers_21 (by decide) ?_
            refine bo_goto hx 26 dX10_vespers_22 (by decide) ?_
            exact bo_arr (fun h => h)
  · refine bo_goR (z := false) hx (fun rr hh => bo_runV (As := [.int a1]) (S := []) hx dX10_vespers_26 lk_X10_218 mi_X10_refused bo_o_0 rfl rfl (kX10_refused (bo_l x) (bo_g x) hx.inj σ a1 rr hh) ⟨by decide, by decide⟩ rfl rfl (Nat.le_of_ble_eq_true rfl)) (fun v2 hv2 => ?_)
    refine bo_istore_n (L' := [(3, .int v2), (0, .ref (bo_a x 0)), (1, .int p1), (2, .int p2)]) hx dX10_vespers_29 rfl (by decide) rfl ?_
    refine bo_iload_n hx dX10_vespers_30 rfl 0 rfl ?_
    refine bo_if_eq hx 36 dX10_vespers_31 (by decide) ?_ ?_
    · refine bo_aload_n hx dX10_vespers_36 rfl 1 rfl ?_
      refine gf_X10_19 hx dX10_vespers_37 ?_
      refine bo_aload_n hx dX10_vespers_40 rfl 1 rfl ?_
      refine gf_X10_71 hx dX10_vespers_41 ?_
      refine bo_aload_n hx dX10_vespers_44 rfl 1 rfl ?_
      refine gf_X10_19 hx dX10_vespers_45 ?_
      refine gf_X10_120 hx bo_ev50 dX10_vespers_48 ?_
      refine bo_goR (z := false) hx (fun rr hh => bo_runV (As := [.ref (bo_a x (bo_inn (σ 0 9))), .int (σ 50 4)]) (S := []) hx dX10_vespers_51 lk_X10_256 mi_X2_due bo_ev50.o rfl rfl (kX2_due (bo_l x) (bo_g x) hx.inj σ 50 (bo_inn (σ 0 9)) (σ 50 4) bo_ev50 (bo_inn_ok (σ 0 9)) rr hh) ⟨by decide, by decide⟩ rfl rfl (Nat.le_of_ble_eq_true rfl)) (fun v3 hv3 => ?_)
      refine bo_istore (L' := [(4, .int v3), (3, .int v2), (0, .ref (bo_a x 0)), (1, .int p1), (2, .int p2)]) hx dX10_vespers_54 (by decide) rfl ?_
      refine bo_aload_n hx dX10_vespers_56 rfl 2 rfl ?_
      refine gf_X10_19 hx dX10_vespers_57 ?_
      refine bo_aload_n hx dX10_vespers_60 rfl 2 rfl ?_
      refine gf_X10_71 hx dX10_vespers_61 ?_
      refine bo_goR (z := false) hx (fun rr hh => bo_runV (As := [.ref (bo_a x (bo_inn (σ 0 9)))]) (S := []) hx dX10_vespers_64 lk_X10_260 mi_X2_full bo_ev50.o rfl rfl (kX2_full (bo_l x) (bo_g x) hx.inj σ 50 (bo_inn (σ 0 9)) bo_ev50 (bo_inn_ok (σ 0 9)) rr hh) ⟨by decide, by decide⟩ rfl rfl (Nat.le_of_ble_eq_true rfl)) (fun v4 hv4 => ?_)
      refine bo_istore (L' := [(5, .int v4), (4, .int v3), (3, .int v2), (0, .ref (bo_a x 0)), (1, .int p1), (2, .int p2)]) hx dX10_vespers_67 (by decide) rfl ?_
      refine bo_aload_n hx dX10_vespers_69 rfl 3 rfl ?_
      refine gf_X10_19 hx dX10_vespers_70 ?_
      refine bo_aload_n hx dX10_vespers_73 rfl 3 rfl ?_
      refine gf_X10_71 hx dX10_vespers_74 ?_
      refine bo_goR (z := false) hx (fun rr hh => bo_runV (As := [.ref (bo_a x (bo_inn (σ 0 9)))]) (S := []) hx dX10_vespers_77 lk_X10_176 mi_X2_thirsty bo_ev50.o rfl rfl (kX2_thirsty (bo_l x) (bo_g x) hx.inj σ 50 (bo_inn (σ 0 9)) bo_ev50 (bo_inn_ok (σ 0 9)) rr hh) ⟨by decide, by decide⟩ rfl rfl (Nat.le_of_ble_eq_true rfl)) (fun v5 hv5 => ?_)
      refine bo_istore (L' := [(6, .int v5), (5, .int v4), (4, .int v3), (3, .int v2), (0, .ref (bo_a x 0)), (1, .int p1), (2, .int p2)]) hx dX10_vespers_80 (by decide) rfl ?_
      refine bo_iconst (v := (-1)) hx dX10_vespers_82 (by decide) ?_
      refine bo_istore (L' := [(7, .int (-1)), (6, .int v5), (5, .int v4), (4, .int v3), (3, .int v2), (0, .ref (bo_a x 0)), (1, .int p1), (2, .int p2)]) hx dX10_vespers_83 (by decide) rfl ?_
      refine bo_iconst (v := (-1)) hx dX10_vespers_85 (by decide) ?_
      refine bo_istore (L' := [(8, .int (-1)), (7, .int (-1)), (6, .int v5), (5, .int v4), (4, .int v3), (3, .int v2), (0, .ref (bo_a x 0)), (1, .int p1), (2, .int p2)]) hx dX10_vespers_86 (by decide) rfl ?_
      refine bo_iconst (v := 0) hx dX10_vespers_88 (by decide) ?_
      refine bo_istore (L' := [(9, .int 0), (8, .int (-1)), (7, .int (-1)), (6, .int v5), (5, .int v4), (4, .int v3), (3, .int v2), (0, .ref (bo_a x 0)), (1, .int p1), (2, .int p2)]) hx dX10_vespers_89 (by decide) rfl ?_
      refine bo_sub (L' := [(0, .ref (bo_a x 0)), (1, .int p1), (2, .int p2), (4, .int v3), (5, .int v4), (6, .int v5), (7, .int (-1)), (8, .int (-1)), (9, .int 0)]) [7, 8, 9, 5, 4, 3, 2, 1, 0] rfl ?_
      refine bo_seq 186 (fun a => [(2, .int p2), (7, .int a.1), (8, .int a.2)]) (fun a => []) (fun a => σ) (lX10_vespers_L91 x hx σ p1 p2 v3 v4 v5 bo_fuel (-1) (-1) 0) (fun a13 => ?_)
      refine bo_iload_n hx dX10_vespers_186 rfl 0 rfl ?_
      refine bo_if_ne hx 195 dX10_vespers_187 (by decide) ?_ ?_
      · refine bo_iload hx dX10_vespers_195 2 rfl ?_
        exact bo_ret dX10_vespers_197 (fun h => by cases h)
      · refine bo_iload hx dX10_vespers_190 1 rfl ?_
        refine bo_goto hx 197 dX10_vespers_192 (by decide) ?_
        exact bo_ret dX10_vespers_197 (fun h => by cases h)
    · refine bo_iload_n hx dX10_vespers_34 rfl 0 rfl ?_
      exact bo_ret dX10_vespers_35 (fun h => by cases h)
theorem kX10_vespers (l : Launch) (g : bo_G) (hi : bo_inj g) (σ : bo_M) (p1 : Int32) (p2 : Int32) : bo_CR l g yX10_vespers cX10_vespers 12 (some .int) 3 70 [.ref (g.2.2 0), .int p1, .int p2] σ false (mX10_vespers σ p1 p2) :=
  bo_metR rfl (Or.inl ⟨rfl, rfl⟩) (by decide) rfl hi (Nat.le_of_ble_eq_true rfl) (fun x e1 e2 hx => by subst e1; subst e2; exact bX10_vespers x hx σ p1 p2)
-- BellRope.ship
theorem dX10_ship_0 : decode cX10_ship 0 = .ok (.aload_n 0, 1) := by decide +kernel
theorem dX10_ship_1 : decode cX10_ship 1 = .ok (.iload_n 1, 1) := by decide +kernel
theorem dX10_ship_2 : decode cX10_ship 2 = .ok (.iconst 1, 1) := by decide +kernel
theorem dX10_ship_12 : decode cX10_ship 12 = .ok (.iconst 1, 1) := by decide +kernel
theorem dX10_ship_13 : decode cX10_ship 13 = .ok (.goto 4, 3) := by decide +kernel
theorem dX10_ship_6 : decode cX10_ship 6 = .ok (.iload_n 1, 1) := by decide +kernel
theorem dX10_ship_7 : decode cX10_ship 7 = .ok (.bipush 99, 2) := by decide +kernel
theorem dX10_ship_16 : decode cX10_ship 16 = .ok (.iconst 0, 1) := by decide +kernel
theorem dX10_ship_9 : decode cX10_ship 9 = .ok (.if_icmp .le 7, 3) := by decide +kernel
theorem dX10_ship_3 : decode cX10_ship 3 = .ok (.if_icmp .lt 9, 3) := by decide +kernel
theorem dX10_ship_17 : decode cX10_ship 17 = .ok (.invokevirtual 218, 3) := by decide +kernel
theorem dX10_ship_20 : decode cX10_ship 20 = .ok (.istore_n 2, 1) := by decide +kernel
theorem dX10_ship_21 : decode cX10_ship 21 = .ok (.iload_n 2, 1) := by decide +kernel
theorem dX10_ship_27 : decode cX10_ship 27 = .ok (.aload_n 0, 1) := by decide +kernel
theorem dX10_ship_28 : decode cX10_ship 28 = .ok (.getfield 43, 3) := by decide +kernel
theorem dX10_ship_31 : decode cX10_ship 31 = .ok (.aload_n 0, 1) := by decide +kernel
theorem dX10_ship_32 : decode cX10_ship 32 = .ok (.getfield 71, 3) := by decide +kernel
theorem dX10_ship_35 : decode cX10_ship 35 = .ok (.aload_n 0, 1) := by decide +kernel
theorem dX10_ship_36 : decode cX10_ship 36 = .ok (.getfield 19, 3) := by decide +kernel
theorem dX10_ship_39 : decode cX10_ship 39 = .ok (.sipush 192, 3) := by decide +kernel
theorem dX10_ship_42 : decode cX10_ship 42 = .ok (.invokevirtual 229, 3) := by decide +kernel
theorem dX10_ship_45 : decode cX10_ship 45 = .ok (.iload_n 1, 1) := by decide +kernel
theorem dX10_ship_46 : decode cX10_ship 46 = .ok (.istore_n 3, 1) := by decide +kernel
theorem dX10_ship_47 : decode cX10_ship 47 = .ok (.iconst 0, 1) := by decide +kernel
theorem dX10_ship_48 : decode cX10_ship 48 = .ok (.istore 4, 2) := by decide +kernel
theorem dX10_ship_50 : decode cX10_ship 50 = .ok (.iload 4, 2) := by decide +kernel
theorem dX10_ship_52 : decode cX10_ship 52 = .ok (.sipush 192, 3) := by decide +kernel
theorem dX10_ship_104 : decode cX10_ship 104 = .ok (.iconst (-1), 1) := by decide +kernel
theorem dX10_ship_105 : decode cX10_ship 105 = .ok (.ireturn, 1) := by decide +kernel
theorem dX10_ship_58 : decode cX10_ship 58 = .ok (.aload_n 0, 1) := by decide +kernel
theorem dX10_ship_59 : decode cX10_ship 59 = .ok (.getfield 43, 3) := by decide +kernel
theorem dX10_ship_62 : decode cX10_ship 62 = .ok (.getfield 233, 3) := by decide +kernel
theorem dX10_ship_65 : decode cX10_ship 65 = .ok (.iload 4, 2) := by decide +kernel
theorem dX10_ship_67 : decode cX10_ship 67 = .ok (.invokestatic 154, 3) := by decide +kernel
theorem dX10_ship_70 : decode cX10_ship 70 = .ok (.istore 5, 2) := by decide +kernel
theorem dX10_ship_72 : decode cX10_ship 72 = .ok (.iload 5, 2) := by decide +kernel
theorem dX10_ship_74 : decode cX10_ship 74 = .ok (.iconst 2, 1) := by decide +kernel
theorem dX10_ship_75 : decode cX10_ship 75 = .ok (.imul, 1) := by decide +kernel
theorem dX10_ship_76 : decode cX10_ship 76 = .ok (.iload_n 3, 1) := by decide +kernel
theorem dX10_ship_86 : decode cX10_ship 86 = .ok (.iinc 3 (-1), 3) := by decide +kernel
theorem dX10_ship_80 : decode cX10_ship 80 = .ok (.iload 5, 2) := by decide +kernel
theorem dX10_ship_82 : decode cX10_ship 82 = .ok (.iconst 3, 1) := by decide +kernel
theorem dX10_ship_83 : decode cX10_ship 83 = .ok (.if_icmp .lt 6, 3) := by decide +kernel
theorem dX10_ship_77 : decode cX10_ship 77 = .ok (.if_icmp .ge 9, 3) := by decide +kernel
theorem dX10_ship_89 : decode cX10_ship 89 = .ok (.iload_n 3, 1) := by decide +kernel
theorem dX10_ship_98 : decode cX10_ship 98 = .ok (.iinc 4 1, 3) := by decide +kernel
theorem dX10_ship_101 : decode cX10_ship 101 = .ok (.goto (-51), 3) := by decide +kernel
theorem dX10_ship_93 : decode cX10_ship 93 = .ok (.iload 4, 2) := by decide +kernel
theorem dX10_ship_95 : decode cX10_ship 95 = .ok (.iconst 1, 1) := by decide +kernel
theorem dX10_ship_96 : decode cX10_ship 96 = .ok (.iadd, 1) := by decide +kernel
theorem dX10_ship_97 : decode cX10_ship 97 = .ok (.ireturn, 1) := by decide +kernel
theorem dX10_ship_90 : decode cX10_ship 90 = .ok (.ifCond .ne 8, 3) := by decide +kernel
theorem dX10_ship_55 : decode cX10_ship 55 = .ok (.if_icmp .ge 49, 3) := by decide +kernel
theorem dX10_ship_25 : decode cX10_ship 25 = .ok (.iload_n 2, 1) := by decide +kernel
theorem dX10_ship_26 : decode cX10_ship 26 = .ok (.ireturn, 1) := by decide +kernel
theorem dX10_ship_22 : decode cX10_ship 22 = .ok (.ifCond .eq 5, 3) := by decide +kernel
theorem lX10_ship_L50 (x : bo_X) (hx : bo_OK x cX10_ship RX10 6 5 119) (σ : bo_M) : ∀ (n : Nat) (w3 : Int32) (w4 : Int32), bo_D x 50 [(0, .ref (bo_a x 0)), (3, .int w3), (4, .int w4)] [] σ (mX10_ship_L50 σ n w3 w4) (bo_Rw x cX10_ship false) := by
  intro n
  induction n with
  | zero => intro w3 w4; exact bo_none
  | succ n ih =>
    intro w3 w4
    rw [mX10_ship_L50]
    refine bo_iload hx dX10_ship_50 2 rfl ?_
    refine bo_sipush (v := 192) hx dX10_ship_52 (by decide) ?_
    refine bo_icmp_ge hx 104 dX10_ship_55 (by decide) ?_ ?_
    · refine bo_iconst (v := (-1)) hx dX10_ship_104 (by decide) ?_
      exact bo_retw dX10_ship_105 (fun h => by cases h)
    · refine bo_aload_n hx dX10_ship_58 rfl 0 rfl ?_
      refine gf_X10_43 hx dX10_ship_59 ?_
      refine gf_X10_233 hx dX10_ship_62 ?_
      refine bo_iload hx dX10_ship_65 2 rfl ?_
      refine bo_goR (z := false) hx (fun rr hh => bo_runS (As := [.ref (bo_a x 23), .int w4]) (S := []) hx dX10_ship_67 lk_X10_154 ms_X8_at (kX8_at (bo_l x) (bo_g x) hx.inj σ 192 23 w4 bo_c_23 rr hh) ⟨by decide, by decide⟩ rfl rfl (Nat.le_of_ble_eq_true rfl)) (fun v4 hv4 => ?_)
      refine bo_istore (L' := [(5, .int v4), (0, .ref (bo_a x 0)), (3, .int w3), (4, .int w4)]) hx dX10_ship_70 (by decide) rfl ?_
      refine bo_iload hx dX10_ship_72 0 rfl ?_
      refine bo_iconst (v := 2) hx dX10_ship_74 (by decide) ?_
      refine bo_imul hx dX10_ship_75 ?_
      refine bo_iload_n hx dX10_ship_76 rfl 2 rfl ?_
      refine bo_seq 89 (fun a => [(0, .ref (bo_a x 0)), (3, .int a), (4, .int w4)]) (fun a => []) (fun a => σ) ?_ (fun a5 => ?_)
      · refine bo_icmp_ge hx 86 dX10_ship_77 (by decide) ?_ ?_
        · refine bo_iinc (L' := [(3, .int (w3 + (-1))), (5, .int v4), (0, .ref (bo_a x 0)), (4, .int w4)]) (w := (w3 + (-1))) hx dX10_ship_86 2 rfl rfl (by decide) rfl ?_
          refine bo_sub (L' := [(0, .ref (bo_a x 0)), (3, .int (w3 + (-1))), (4, .int w4)]) [2, 0, 3] rfl ?_
          exact bo_arr (fun h => h)
        · refine bo_iload hx dX10_ship_80 0 rfl ?_
          refine bo_iconst (v := 3) hx dX10_ship_82 (by decide) ?_
          refine bo_icmp_lt hx 89 dX10_ship_83 (by decide) ?_ ?_
          · refine bo_sub (L' := [(0, .ref (bo_a x 0)), (3, .int w3), (4, .int w4)]) [1, 2, 3] rfl ?_
            exact bo_arr (fun h => h)
          · refine bo_iinc (L' := [(3, .int (w3 + (-1))), (5, .int v4), (0, .ref (bo_a x 0)), (4, .int w4)]) (w := (w3 + (-1))) hx dX10_ship_86 2 rfl rfl (by decide) rfl ?_
            refine bo_sub (L' := [(0, .ref (bo_a x 0)), (3, .int (w3 + (-1))), (4, .int w4)]) [2, 0, 3] rfl ?_
            exact bo_arr (fun h => h)
      · refine bo_iload_n hx dX10_ship_89 rfl 1 rfl ?_
        refine bo_if_ne hx 98 dX10_ship_90 (by decide) ?_ ?_
        · refine bo_iinc (L' := [(4, .int (w4 + 1)), (0, .ref (bo_a x 0)), (3, .int a5)]) (w := (w4 + 1)) hx dX10_ship_98 2 rfl rfl (by decide) rfl ?_
          refine bo_goto hx 50 dX10_ship_101 (by decide) ?_
          refine bo_sub (L' := [(0, .ref (bo_a x 0)), (3, .int a5), (4, .int (w4 + 1))]) [1, 2, 0] rfl ?_
          exact ih a5 (w4 + 1)
        · refine bo_iload hx dX10_ship_93 2 rfl ?_
          refine bo_iconst (v := 1) hx dX10_ship_95 (by decide) ?_
          refine bo_iadd hx dX10_ship_96 ?_
          exact bo_retw dX10_ship_97 (fun h => by cases h)
theorem bX10_ship (x : bo_X) (hx : bo_OK x cX10_ship RX10 6 5 119) (σ : bo_M) (p1 : Int32) : bo_D x 0 [(0, .ref (bo_a x 0)), (1, .int p1)] [] σ (mX10_ship σ p1) (bo_Rw x cX10_ship false) := by
  unfold mX10_ship
  refine bo_aload_n hx dX10_ship_0 rfl 0 rfl ?_
  refine bo_iload_n hx dX10_ship_1 rfl 1 rfl ?_
  refine bo_iconst (v := 1) hx dX10_ship_2 (by decide) ?_
  refine bo_seq 17 (fun a => [(0, .ref (bo_a x 0)), (1, .int p1)]) (fun a => [.int a, .ref (bo_a x 0)]) (fun a => σ) ?_ (fun a1 => ?_)
  · refine bo_icmp_lt hx 12 dX10_ship_3 (by decide) ?_ ?_
    · refine bo_iconst (v := 1) hx dX10_ship_12 (by decide) ?_
      refine bo_goto hx 17 dX10_ship_13 (by decide) ?_
      exact bo_arr (fun h => h)
    · refine bo_iload_n hx dX10_ship_6 rfl 1 rfl ?_
      refine bo_bipush (v := 99) hx dX10_ship_7 (by decide) ?_
      refine bo_icmp_le hx 16 dX10_ship_9 (by decide) ?_ ?_
      · refine bo_iconst (v := 0) hx dX10_ship_16 (by decide) ?_
        exact bo_arr (fun h => h)
      · refine bo_iconst (v := 1) hx dX10_ship_12 (by decide) ?_
        refine bo_goto hx 17 dX10_ship_13 (by decide) ?_
        exact bo_arr (fun h => h)
  · refine bo_goR (z := false) hx (fun rr hh => bo_runV (As := [.int a1]) (S := []) hx dX10_ship_17 lk_X10_218 mi_X10_refused bo_o_0 rfl rfl (kX10_refused (bo_l x) (bo_g x) hx.inj σ a1 rr hh) ⟨by decide, by decide⟩ rfl rfl (Nat.le_of_ble_eq_true rfl)) (fun v2 hv2 => ?_)
    refine bo_istore_n (L' := [(2, .int v2), (0, .ref (bo_a x 0)), (1, .int p1)]) hx dX10_ship_20 rfl (by decide) rfl ?_
    refine bo_iload_n hx dX10_ship_21 rfl 0 rfl ?_
    refine bo_if_eq hx 27 dX10_ship_22 (by decide) ?_ ?_
    · refine bo_aload_n hx dX10_ship_27 rfl 1 rfl ?_
      refine gf_X10_43 hx dX10_ship_28 ?_
      refine bo_aload_n hx dX10_ship_31 rfl 1 rfl ?_
      refine gf_X10_71 hx dX10_ship_32 ?_
      refine bo_aload_n hx dX10_ship_35 rfl 1 rfl ?_
      refine gf_X10_19 hx dX10_ship_36 ?_
      refine bo_sipush (v := 192) hx dX10_ship_39 (by decide) ?_
      refine bo_goV hx (fun rr hh => bo_runV (As := [.ref (bo_a x (bo_inn (σ 0 9))), .ref (bo_a x 50), .int 192]) (S := []) hx dX10_ship_42 lk_X10_229 mi_X9_run bo_o_17 rfl rfl (kX9_run (bo_l x) (bo_g x) hx.inj σ (bo_inn (σ 0 9)) 50 192 (bo_inn_ok (σ 0 9)) bo_ev50 rr hh) ⟨by decide, by decide⟩ rfl rfl (Nat.le_of_ble_eq_true rfl)) (fun σ3 => ?_)
      refine bo_iload_n hx dX10_ship_45 rfl 2 rfl ?_
      refine bo_istore_n (L' := [(3, .int p1), (2, .int v2), (0, .ref (bo_a x 0)), (1, .int p1)]) hx dX10_ship_46 rfl (by decide) rfl ?_
      refine bo_iconst (v := 0) hx dX10_ship_47 (by decide) ?_
      refine bo_istore (L' := [(4, .int 0), (3, .int p1), (2, .int v2), (0, .ref (bo_a x 0)), (1, .int p1)]) hx dX10_ship_48 (by decide) rfl ?_
      refine bo_sub (L' := [(0, .ref (bo_a x 0)), (3, .int p1), (4, .int 0)]) [3, 1, 0] rfl ?_
      exact lX10_ship_L50 x hx σ3 bo_fuel p1 0
    · refine bo_iload_n hx dX10_ship_25 rfl 0 rfl ?_
      exact bo_retw dX10_ship_26 (fun h => by cases h)
theorem kX10_ship (l : Launch) (g : bo_G) (hi : bo_inj g) (σ : bo_M) (p1 : Int32) : bo_CW l g yX10_ship cX10_ship 6 (some .int) 5 119 [.ref (g.2.2 0), .int p1] σ false (mX10_ship σ p1) :=
  bo_metW rfl (Or.inl ⟨rfl, rfl⟩) (by decide) rfl hi (Nat.le_of_ble_eq_true rfl) (fun x e1 e2 hx => by subst e1; subst e2; exact bX10_ship x hx σ p1)
-- BellRope.widows
theorem dX10_widows_0 : decode cX10_widows 0 = .ok (.iload_n 1, 1) := by decide +kernel
theorem dX10_widows_10 : decode cX10_widows 10 = .ok (.ldc 78, 2) := by decide +kernel
theorem dX10_widows_12 : decode cX10_widows 12 = .ok (.ireturn, 1) := by decide +kernel
theorem dX10_widows_4 : decode cX10_widows 4 = .ok (.iload_n 1, 1) := by decide +kernel
theorem dX10_widows_5 : decode cX10_widows 5 = .ok (.bipush 99, 2) := by decide +kernel
theorem dX10_widows_13 : decode cX10_widows 13 = .ok (.iconst 0, 1) := by decide +kernel
theorem dX10_widows_14 : decode cX10_widows 14 = .ok (.istore_n 2, 1) := by decide +kernel
theorem dX10_widows_15 : decode cX10_widows 15 = .ok (.iconst (-1), 1) := by decide +kernel
theorem dX10_widows_16 : decode cX10_widows 16 = .ok (.istore_n 3, 1) := by decide +kernel
theorem dX10_widows_17 : decode cX10_widows 17 = .ok (.aload_n 0, 1) := by decide +kernel
theorem dX10_widows_18 : decode cX10_widows 18 = .ok (.getfield 19, 3) := by decide +kernel
theorem dX10_widows_21 : decode cX10_widows 21 = .ok (.invokevirtual 139, 3) := by decide +kernel
theorem dX10_widows_24 : decode cX10_widows 24 = .ok (.iconst 1, 1) := by decide +kernel
theorem dX10_widows_25 : decode cX10_widows 25 = .ok (.isub, 1) := by decide +kernel
theorem dX10_widows_26 : decode cX10_widows 26 = .ok (.istore 4, 2) := by decide +kernel
theorem dX10_widows_28 : decode cX10_widows 28 = .ok (.iload 4, 2) := by decide +kernel
theorem dX10_widows_33 : decode cX10_widows 33 = .ok (.aload_n 0, 1) := by decide +kernel
theorem dX10_widows_34 : decode cX10_widows 34 = .ok (.getfield 19, 3) := by decide +kernel
theorem dX10_widows_37 : decode cX10_widows 37 = .ok (.iload 4, 2) := by decide +kernel
theorem dX10_widows_39 : decode cX10_widows 39 = .ok (.invokevirtual 191, 3) := by decide +kernel
theorem dX10_widows_42 : decode cX10_widows 42 = .ok (.istore 5, 2) := by decide +kernel
theorem dX10_widows_44 : decode cX10_widows 44 = .ok (.iload 5, 2) := by decide +kernel
theorem dX10_widows_46 : decode cX10_widows 46 = .ok (.iload_n 3, 1) := by decide +kernel
theorem dX10_widows_50 : decode cX10_widows 50 = .ok (.iload_n 2, 1) := by decide +kernel
theorem dX10_widows_51 : decode cX10_widows 51 = .ok (.iload 5, 2) := by decide +kernel
theorem dX10_widows_53 : decode cX10_widows 53 = .ok (.iadd, 1) := by decide +kernel
theorem dX10_widows_54 : decode cX10_widows 54 = .ok (.istore_n 2, 1) := by decide +kernel
theorem dX10_widows_47 : decode cX10_widows 47 = .ok (.if_icmp .eq 8, 3) := by decide +kernel
theorem dX10_widows_55 : decode cX10_widows 55 = .ok (.iload 5, 2) := by decide +kernel
theorem dX10_widows_57 : decode cX10_widows 57 = .ok (.istore_n 3, 1) := by decide +kernel
theorem dX10_widows_58 : decode cX10_widows 58 = .ok (.iinc 4 (-1), 3) := by decide +kernel
theorem dX10_widows_61 : decode cX10_widows 61 = .ok (.goto (-33), 3) := by decide +kernel
theorem dX10_widows_30 : decode cX10_widows 30 = .ok (.ifCond .lt 34, 3) := by decide +kernel
theorem dX10_widows_64 : decode cX10_widows 64 = .ok (.iload_n 2, 1) := by decide +kernel
theorem dX10_widows_65 : decode cX10_widows 65 = .ok (.iload_n 1, 1) := by decide +kernel
theorem dX10_widows_66 : decode cX10_widows 66 = .ok (.imul, 1) := by decide +kernel
theorem dX10_widows_67 : decode cX10_widows 67 = .ok (.ireturn, 1) := by decide +kernel
theorem dX10_widows_7 : decode cX10_widows 7 = .ok (.if_icmp .le 6, 3) := by decide +kernel
theorem dX10_widows_1 : decode cX10_widows 1 = .ok (.ifCond .lt 9, 3) := by decide +kernel
theorem lX10_widows_L28 (x : bo_X) (hx : bo_OK x cX10_widows RX10 6 2 44) (σ : bo_M) (f1 : Int32) : ∀ (n : Nat) (w2 : Int32) (w3 : Int32) (w4 : Int32), bo_D x 28 [(0, .ref (bo_a x 0)), (1, .int f1), (2, .int w2), (3, .int w3), (4, .int w4)] [] σ (mX10_widows_L28 σ f1 n w2 w3 w4) (fun a => bo_N x 64 [(1, .int f1), (2, .int a)] [] σ) := by
  intro n
  induction n with
  | zero => intro w2 w3 w4; exact bo_none
  | succ n ih =>
    intro w2 w3 w4
    rw [mX10_widows_L28]
    refine bo_iload hx dX10_widows_28 4 rfl ?_
    refine bo_if_lt hx 64 dX10_widows_30 (by decide) ?_ ?_
    · refine bo_sub (L' := [(1, .int f1), (2, .int w2)]) [1, 2] rfl ?_
      exact bo_arr (fun h => h)
    · refine bo_aload_n hx dX10_widows_33 rfl 0 rfl ?_
      refine gf_X10_19 hx dX10_widows_34 ?_
      refine bo_iload hx dX10_widows_37 4 rfl ?_
      refine bo_goR (z := false) hx (fun rr hh => bo_runV (As := [.int w4]) (S := []) hx dX10_widows_39 lk_X10_191 mi_X2_heardAgo bo_ev50.o rfl rfl (kX2_heardAgo (bo_l x) (bo_g x) hx.inj σ 50 w4 bo_ev50 rr hh) ⟨by decide, by decide⟩ rfl rfl (Nat.le_of_ble_eq_true rfl)) (fun v2 hv2 => ?_)
      refine bo_istore (L' := [(5, .int v2), (0, .ref (bo_a x 0)), (1, .int f1), (2, .int w2), (3, .int w3), (4, .int w4)]) hx dX10_widows_42 (by decide) rfl ?_
      refine bo_iload hx dX10_widows_44 0 rfl ?_
      refine bo_iload_n hx dX10_widows_46 rfl 4 rfl ?_
      refine bo_seq 55 (fun a => [(0, .ref (bo_a x 0)), (1, .int f1), (2, .int a), (4, .int w4), (5, .int v2)]) (fun a => []) (fun a => σ) ?_ (fun a3 => ?_)
      · refine bo_icmp_eq hx 55 dX10_widows_47 (by decide) ?_ ?_
        · refine bo_sub (L' := [(0, .ref (bo_a x 0)), (1, .int f1), (2, .int w2), (4, .int w4), (5, .int v2)]) [1, 2, 3, 5, 0] rfl ?_
          exact bo_arr (fun h => h)
        · refine bo_iload_n hx dX10_widows_50 rfl 3 rfl ?_
          refine bo_iload hx dX10_widows_51 0 rfl ?_
          refine bo_iadd hx dX10_widows_53 ?_
          refine bo_istore_n (L' := [(2, .int (w2 + v2)), (5, .int v2), (0, .ref (bo_a x 0)), (1, .int f1), (3, .int w3), (4, .int w4)]) hx dX10_widows_54 rfl (by decide) rfl ?_
          refine bo_sub (L' := [(0, .ref (bo_a x 0)), (1, .int f1), (2, .int (w2 + v2)), (4, .int w4), (5, .int v2)]) [2, 3, 0, 5, 1] rfl ?_
          exact bo_arr (fun h => h)
      · refine bo_iload hx dX10_widows_55 4 rfl ?_
        refine bo_istore_n (L' := [(3, .int v2), (0, .ref (bo_a x 0)), (1, .int f1), (2, .int a3), (4, .int w4), (5, .int v2)]) hx dX10_widows_57 rfl (by decide) rfl ?_
        refine bo_iinc (L' := [(4, .int (w4 + (-1))), (3, .int v2), (0, .ref (bo_a x 0)), (1, .int f1), (2, .int a3), (5, .int v2)]) (w := (w4 + (-1))) hx dX10_widows_58 4 rfl rfl (by decide) rfl ?_
        refine bo_goto hx 28 dX10_widows_61 (by decide) ?_
        refine bo_sub (L' := [(0, .ref (bo_a x 0)), (1, .int f1), (2, .int a3), (3, .int v2), (4, .int (w4 + (-1)))]) [2, 3, 4, 1, 0] rfl ?_
        exact ih a3 v2 (w4 + (-1))
theorem bX10_widows (x : bo_X) (hx : bo_OK x cX10_widows RX10 6 2 44) (σ : bo_M) (p1 : Int32) : bo_D x 0 [(0, .ref (bo_a x 0)), (1, .int p1)] [] σ (mX10_widows σ p1) (bo_Ri x cX10_widows σ false) := by
  unfold mX10_widows
  refine bo_iload_n hx dX10_widows_0 rfl 1 rfl ?_
  refine bo_if_lt hx 10 dX10_widows_1 (by decide) ?_ ?_
  · refine bo_ldc (v := (-1000000002)) hx dX10_widows_10 wc_X10_78 ?_
    exact bo_ret dX10_widows_12 (fun h => by cases h)
  · refine bo_iload_n hx dX10_widows_4 rfl 1 rfl ?_
    refine bo_bipush (v := 99) hx dX10_widows_5 (by decide) ?_
    refine bo_icmp_le hx 13 dX10_widows_7 (by decide) ?_ ?_
    · refine bo_iconst (v := 0) hx dX10_widows_13 (by decide) ?_
      refine bo_istore_n (L' := [(2, .int 0), (0, .ref (bo_a x 0)), (1, .int p1)]) hx dX10_widows_14 rfl (by decide) rfl ?_
      refine bo_iconst (v := (-1)) hx dX10_widows_15 (by decide) ?_
      refine bo_istore_n (L' := [(3, .int (-1)), (2, .int 0), (0, .ref (bo_a x 0)), (1, .int p1)]) hx dX10_widows_16 rfl (by decide) rfl ?_
      refine bo_aload_n hx dX10_widows_17 rfl 2 rfl ?_
      refine gf_X10_19 hx dX10_widows_18 ?_
      refine bo_goR (z := false) hx (fun rr hh => bo_runV (As := []) (S := []) hx dX10_widows_21 lk_X10_139 mi_X2_logs bo_ev50.o rfl rfl (kX2_logs (bo_l x) (bo_g x) hx.inj σ 50 bo_ev50 rr hh) ⟨by decide, by decide⟩ rfl rfl (Nat.le_of_ble_eq_true rfl)) (fun v1 hv1 => ?_)
      refine bo_iconst (v := 1) hx dX10_widows_24 (by decide) ?_
      refine bo_isub hx dX10_widows_25 ?_
      refine bo_istore (L' := [(4, .int (v1 - 1)), (3, .int (-1)), (2, .int 0), (0, .ref (bo_a x 0)), (1, .int p1)]) hx dX10_widows_26 (by decide) rfl ?_
      refine bo_sub (L' := [(0, .ref (bo_a x 0)), (1, .int p1), (2, .int 0), (3, .int (-1)), (4, .int (v1 - 1))]) [3, 4, 2, 1, 0] rfl ?_
      refine bo_seq 64 (fun a => [(1, .int p1), (2, .int a)]) (fun a => []) (fun a => σ) (lX10_widows_L28 x hx σ p1 bo_fuel 0 (-1) (v1 - 1)) (fun a4 => ?_)
      refine bo_iload_n hx dX10_widows_64 rfl 1 rfl ?_
      refine bo_iload_n hx dX10_widows_65 rfl 0 rfl ?_
      refine bo_imul hx dX10_widows_66 ?_
      exact bo_ret dX10_widows_67 (fun h => by cases h)
    · refine bo_ldc (v := (-1000000002)) hx dX10_widows_10 wc_X10_78 ?_
      exact bo_ret dX10_widows_12 (fun h => by cases h)
theorem kX10_widows (l : Launch) (g : bo_G) (hi : bo_inj g) (σ : bo_M) (p1 : Int32) : bo_CR l g yX10_widows cX10_widows 6 (some .int) 2 44 [.ref (g.2.2 0), .int p1] σ false (mX10_widows σ p1) :=
  bo_metR rfl (Or.inl ⟨rfl, rfl⟩) (by decide) rfl hi (Nat.le_of_ble_eq_true rfl) (fun x e1 e2 hx => by subst e1; subst e2; exact bX10_widows x hx σ p1)
-- BellRope$Chances.restart
theorem dX1_restart_0 : decode cX1_restart 0 = .ok (.aload_n 0, 1) := by decide +kernel
theorem dX1_restart_1 : decode cX1_restart 1 = .ok (.getfield 9, 3) := by decide +kernel
theorem dX1_restart_4 : decode cX1_restart 4 = .ok (.invokestatic 15, 3) := by decide +kernel
theorem dX1_restart_7 : decode cX1_restart 7 = .ok (.aload_n 0, 1) := by decide +kernel
theorem dX1_restart_8 : decode cX1_restart 8 = .ok (.getfield 9, 3) := by decide +kernel
theorem dX1_restart_11 : decode cX1_restart 11 = .ok (.iconst 0, 1) := by decide +kernel
theorem dX1_restart_12 : decode cX1_restart 12 = .ok (.ldc 21, 2) := by decide +kernel
theorem dX1_restart_14 : decode cX1_restart 14 = .ok (.invokestatic 22, 3) := by decide +kernel
theorem dX1_restart_17 : decode cX1_restart 17 = .ok (.return_, 1) := by decide +kernel
theorem bX1_restart (x : bo_X) (hx : bo_OK x cX1_restart RX1 1 1 22) (σ : bo_M) : bo_D x 0 [(0, .ref (bo_a x 32))] [] σ (mX1_restart σ) (bo_Rv x cX1_restart) := by
  unfold mX1_restart
  refine bo_aload_n hx dX1_restart_0 rfl 0 rfl ?_
  refine gf_X1_9 hx dX1_restart_1 ?_
  refine bo_goV hx (fun rr hh => bo_runS (As := [.ref (bo_a x 33)]) (S := []) hx dX1_restart_4 lk_X1_15 ms_X8_zero (kX8_zero (bo_l x) (bo_g x) hx.inj σ 8 33 bo_c_33 rr hh) ⟨by decide, by decide⟩ rfl rfl (Nat.le_of_ble_eq_true rfl)) (fun σ1 => ?_)
  refine bo_aload_n hx dX1_restart_7 rfl 0 rfl ?_
  refine gf_X1_9 hx dX1_restart_8 ?_
  refine bo_iconst (v := 0) hx dX1_restart_11 (by decide) ?_
  refine bo_ldc (v := 1000000) hx dX1_restart_12 wc_X1_21 ?_
  refine bo_goV hx (fun rr hh => bo_runS (As := [.ref (bo_a x 33), .int 0, .int 1000000]) (S := []) hx dX1_restart_14 lk_X1_22 ms_X8_put (kX8_put (bo_l x) (bo_g x) hx.inj σ1 8 33 0 1000000 bo_c_33 rr hh) ⟨by decide, by decide⟩ rfl rfl (Nat.le_of_ble_eq_true rfl)) (fun σ2 => ?_)
  exact bo_retv dX1_restart_17
theorem kX1_restart (l : Launch) (g : bo_G) (hi : bo_inj g) (σ : bo_M) : bo_CV l g yX1_restart cX1_restart 1 none 1 22 [.ref (g.2.2 32)] σ (mX1_restart σ) :=
  bo_metV rfl  (by decide) rfl hi (Nat.le_of_ble_eq_true rfl) (fun x e1 e2 hx => by subst e1; subst e2; exact bX1_restart x hx σ)
-- BellRope$Chances.lift
theorem dX1_lift_0 : decode cX1_lift 0 = .ok (.bipush 6, 2) := by decide +kernel
theorem dX1_lift_2 : decode cX1_lift 2 = .ok (.istore_n 2, 1) := by decide +kernel
theorem dX1_lift_3 : decode cX1_lift 3 = .ok (.iload_n 2, 1) := by decide +kernel
theorem dX1_lift_7 : decode cX1_lift 7 = .ok (.aload_n 0, 1) := by decide +kernel
theorem dX1_lift_8 : decode cX1_lift 8 = .ok (.getfield 9, 3) := by decide +kernel
theorem dX1_lift_11 : decode cX1_lift 11 = .ok (.iload_n 2, 1) := by decide +kernel
theorem dX1_lift_12 : decode cX1_lift 12 = .ok (.invokestatic 26, 3) := by decide +kernel
theorem dX1_lift_15 : decode cX1_lift 15 = .ok (.iload_n 1, 1) := by decide +kernel
theorem dX1_lift_16 : decode cX1_lift 16 = .ok (.imul, 1) := by decide +kernel
theorem dX1_lift_17 : decode cX1_lift 17 = .ok (.bipush 100, 2) := by decide +kernel
theorem dX1_lift_19 : decode cX1_lift 19 = .ok (.idiv, 1) := by decide +kernel
theorem dX1_lift_20 : decode cX1_lift 20 = .ok (.istore_n 3, 1) := by decide +kernel
theorem dX1_lift_21 : decode cX1_lift 21 = .ok (.aload_n 0, 1) := by decide +kernel
theorem dX1_lift_22 : decode cX1_lift 22 = .ok (.getfield 9, 3) := by decide +kernel
theorem dX1_lift_25 : decode cX1_lift 25 = .ok (.iload_n 2, 1) := by decide +kernel
theorem dX1_lift_26 : decode cX1_lift 26 = .ok (.aload_n 0, 1) := by decide +kernel
theorem dX1_lift_27 : decode cX1_lift 27 = .ok (.getfield 9, 3) := by decide +kernel
theorem dX1_lift_30 : decode cX1_lift 30 = .ok (.iload_n 2, 1) := by decide +kernel
theorem dX1_lift_31 : decode cX1_lift 31 = .ok (.invokestatic 26, 3) := by decide +kernel
theorem dX1_lift_34 : decode cX1_lift 34 = .ok (.iload_n 3, 1) := by decide +kernel
theorem dX1_lift_35 : decode cX1_lift 35 = .ok (.isub, 1) := by decide +kernel
theorem dX1_lift_36 : decode cX1_lift 36 = .ok (.invokestatic 22, 3) := by decide +kernel
theorem dX1_lift_39 : decode cX1_lift 39 = .ok (.aload_n 0, 1) := by decide +kernel
theorem dX1_lift_40 : decode cX1_lift 40 = .ok (.getfield 9, 3) := by decide +kernel
theorem dX1_lift_43 : decode cX1_lift 43 = .ok (.iload_n 2, 1) := by decide +kernel
theorem dX1_lift_44 : decode cX1_lift 44 = .ok (.iconst 1, 1) := by decide +kernel
theorem dX1_lift_45 : decode cX1_lift 45 = .ok (.iadd, 1) := by decide +kernel
theorem dX1_lift_46 : decode cX1_lift 46 = .ok (.aload_n 0, 1) := by decide +kernel
theorem dX1_lift_47 : decode cX1_lift 47 = .ok (.getfield 9, 3) := by decide +kernel
theorem dX1_lift_50 : decode cX1_lift 50 = .ok (.iload_n 2, 1) := by decide +kernel
theorem dX1_lift_51 : decode cX1_lift 51 = .ok (.iconst 1, 1) := by decide +kernel
theorem dX1_lift_52 : decode cX1_lift 52 = .ok (.iadd, 1) := by decide +kernel
theorem dX1_lift_53 : decode cX1_lift 53 = .ok (.invokestatic 26, 3) := by decide +kernel
theorem dX1_lift_56 : decode cX1_lift 56 = .ok (.iload_n 3, 1) := by decide +kernel
theorem dX1_lift_57 : decode cX1_lift 57 = .ok (.iadd, 1) := by decide +kernel
theorem dX1_lift_58 : decode cX1_lift 58 = .ok (.invokestatic 22, 3) := by decide +kernel
theorem dX1_lift_61 : decode cX1_lift 61 = .ok (.iinc 2 (-1), 3) := by decide +kernel
theorem dX1_lift_64 : decode cX1_lift 64 = .ok (.goto (-61), 3) := by decide +kernel
theorem dX1_lift_4 : decode cX1_lift 4 = .ok (.ifCond .lt 63, 3) := by decide +kernel
theorem dX1_lift_67 : decode cX1_lift 67 = .ok (.return_, 1) := by decide +kernel
theorem lX1_lift_L3 (x : bo_X) (hx : bo_OK x cX1_lift RX1 4 1 22) (f1 : Int32) : ∀ (n : Nat) (w2 : Int32) (σ : bo_M), bo_D x 3 [(0, .ref (bo_a x 32)), (1, .int f1), (2, .int w2)] [] σ (mX1_lift_L3 f1 n w2 σ) (fun a => bo_N x 67 [] [] a) := by
  intro n
  induction n with
  | zero => intro w2 σ; exact bo_none
  | succ n ih =>
    intro w2 σ
    rw [mX1_lift_L3]
    refine bo_iload_n hx dX1_lift_3 rfl 2 rfl ?_
    refine bo_if_lt hx 67 dX1_lift_4 (by decide) ?_ ?_
    · refine bo_sub (L' := []) [] rfl ?_
      exact bo_arr (fun h => h)
    · refine bo_aload_n hx dX1_lift_7 rfl 0 rfl ?_
      refine gf_X1_9 hx dX1_lift_8 ?_
      refine bo_iload_n hx dX1_lift_11 rfl 2 rfl ?_
      refine bo_goR (z := false) hx (fun rr hh => bo_runS (As := [.ref (bo_a x 33), .int w2]) (S := []) hx dX1_lift_12 lk_X1_26 ms_X8_at (kX8_at (bo_l x) (bo_g x) hx.inj σ 8 33 w2 bo_c_33 rr hh) ⟨by decide, by decide⟩ rfl rfl (Nat.le_of_ble_eq_true rfl)) (fun v1 hv1 => ?_)
      refine bo_iload_n hx dX1_lift_15 rfl 1 rfl ?_
      refine bo_imul hx dX1_lift_16 ?_
      refine bo_bipush (v := 100) hx dX1_lift_17 (by decide) ?_
      refine bo_idivc hx dX1_lift_19 (by decide) ?_
      refine bo_istore_n (L' := [(3, .int ((v1 * f1) / 100)), (0, .ref (bo_a x 32)), (1, .int f1), (2, .int w2)]) hx dX1_lift_20 rfl (by decide) rfl ?_
      refine bo_aload_n hx dX1_lift_21 rfl 1 rfl ?_
      refine gf_X1_9 hx dX1_lift_22 ?_
      refine bo_iload_n hx dX1_lift_25 rfl 3 rfl ?_
      refine bo_aload_n hx dX1_lift_26 rfl 1 rfl ?_
      refine gf_X1_9 hx dX1_lift_27 ?_
      refine bo_iload_n hx dX1_lift_30 rfl 3 rfl ?_
      refine bo_goR (z := false) hx (fun rr hh => bo_runS (As := [.ref (bo_a x 33), .int w2]) (S := [.int w2, .ref (bo_a x 33)]) hx dX1_lift_31 lk_X1_26 ms_X8_at (kX8_at (bo_l x) (bo_g x) hx.inj σ 8 33 w2 bo_c_33 rr hh) ⟨by decide, by decide⟩ rfl rfl (Nat.le_of_ble_eq_true rfl)) (fun v2 hv2 => ?_)
      refine bo_iload_n hx dX1_lift_34 rfl 0 rfl ?_
      refine bo_isub hx dX1_lift_35 ?_
      refine bo_goV hx (fun rr hh => bo_runS (As := [.ref (bo_a x 33), .int w2, .int (v2 - ((v1 * f1) / 100))]) (S := []) hx dX1_lift_36 lk_X1_22 ms_X8_put (kX8_put (bo_l x) (bo_g x) hx.inj σ 8 33 w2 (v2 - ((v1 * f1) / 100)) bo_c_33 rr hh) ⟨by decide, by decide⟩ rfl rfl (Nat.le_of_ble_eq_true rfl)) (fun σ3 => ?_)
      refine bo_aload_n hx dX1_lift_39 rfl 1 rfl ?_
      refine gf_X1_9 hx dX1_lift_40 ?_
      refine bo_iload_n hx dX1_lift_43 rfl 3 rfl ?_
      refine bo_iconst (v := 1) hx dX1_lift_44 (by decide) ?_
      refine bo_iadd hx dX1_lift_45 ?_
      refine bo_aload_n hx dX1_lift_46 rfl 1 rfl ?_
      refine gf_X1_9 hx dX1_lift_47 ?_
      refine bo_iload_n hx dX1_lift_50 rfl 3 rfl ?_
      refine bo_iconst (v := 1) hx dX1_lift_51 (by decide) ?_
      refine bo_iadd hx dX1_lift_52 ?_
      refine bo_goR (z := false) hx (fun rr hh => bo_runS (As := [.ref (bo_a x 33), .int (w2 + 1)]) (S := [.int (w2 + 1), .ref (bo_a x 33)]) hx dX1_lift_53 lk_X1_26 ms_X8_at (kX8_at (bo_l x) (bo_g x) hx.inj σ3 8 33 (w2 + 1) bo_c_33 rr hh) ⟨by decide, by decide⟩ rfl rfl (Nat.le_of_ble_eq_true rfl)) (fun v4 hv4 => ?_)
      refine bo_iload_n hx dX1_lift_56 rfl 0 rfl ?_
      refine bo_iadd hx dX1_lift_57 ?_
      refine bo_goV hx (fun rr hh => bo_runS (As := [.ref (bo_a x 33), .int (w2 + 1), .int (v4 + ((v1 * f1) / 100))]) (S := []) hx dX1_lift_58 lk_X1_22 ms_X8_put (kX8_put (bo_l x) (bo_g x) hx.inj σ3 8 33 (w2 + 1) (v4 + ((v1 * f1) / 100)) bo_c_33 rr hh) ⟨by decide, by decide⟩ rfl rfl (Nat.le_of_ble_eq_true rfl)) (fun σ5 => ?_)
      refine bo_iinc (L' := [(2, .int (w2 + (-1))), (3, .int ((v1 * f1) / 100)), (0, .ref (bo_a x 32)), (1, .int f1)]) (w := (w2 + (-1))) hx dX1_lift_61 3 rfl rfl (by decide) rfl ?_
      refine bo_goto hx 3 dX1_lift_64 (by decide) ?_
      refine bo_sub (L' := [(0, .ref (bo_a x 32)), (1, .int f1), (2, .int (w2 + (-1)))]) [2, 3, 0] rfl ?_
      exact ih (w2 + (-1)) σ5
theorem bX1_lift (x : bo_X) (hx : bo_OK x cX1_lift RX1 4 1 22) (σ : bo_M) (p1 : Int32) : bo_D x 0 [(0, .ref (bo_a x 32)), (1, .int p1)] [] σ (mX1_lift σ p1) (bo_Rv x cX1_lift) := by
  unfold mX1_lift
  refine bo_bipush (v := 6) hx dX1_lift_0 (by decide) ?_
  refine bo_istore_n (L' := [(2, .int 6), (0, .ref (bo_a x 32)), (1, .int p1)]) hx dX1_lift_2 rfl (by decide) rfl ?_
  refine bo_sub (L' := [(0, .ref (bo_a x 32)), (1, .int p1), (2, .int 6)]) [1, 2, 0] rfl ?_
  refine bo_seq 67 (fun a => []) (fun a => []) (fun a => a) (lX1_lift_L3 x hx p1 bo_fuel 6 σ) (fun a6 => ?_)
  exact bo_retv dX1_lift_67
theorem kX1_lift (l : Launch) (g : bo_G) (hi : bo_inj g) (σ : bo_M) (p1 : Int32) : bo_CV l g yX1_lift cX1_lift 4 none 1 22 [.ref (g.2.2 32), .int p1] σ (mX1_lift σ p1) :=
  bo_metV rfl  (by decide) rfl hi (Nat.le_of_ble_eq_true rfl) (fun x e1 e2 hx => by subst e1; subst e2; exact bX1_lift x hx σ p1)
-- BellRope$Chances.above
theorem dX1_above_0 : decode cX1_above 0 = .ok (.iconst 0, 1) := by decide +kernel
theorem dX1_above_1 : decode cX1_above 1 = .ok (.istore_n 2, 1) := by decide +kernel
theorem dX1_above_2 : decode cX1_above 2 = .ok (.iload_n 1, 1) := by decide +kernel
theorem dX1_above_3 : decode cX1_above 3 = .ok (.istore_n 3, 1) := by decide +kernel
theorem dX1_above_4 : decode cX1_above 4 = .ok (.iload_n 3, 1) := by decide +kernel
theorem dX1_above_5 : decode cX1_above 5 = .ok (.bipush 7, 2) := by decide +kernel
theorem dX1_above_10 : decode cX1_above 10 = .ok (.iload_n 2, 1) := by decide +kernel
theorem dX1_above_11 : decode cX1_above 11 = .ok (.aload_n 0, 1) := by decide +kernel
theorem dX1_above_12 : decode cX1_above 12 = .ok (.getfield 9, 3) := by decide +kernel
theorem dX1_above_15 : decode cX1_above 15 = .ok (.iload_n 3, 1) := by decide +kernel
theorem dX1_above_16 : decode cX1_above 16 = .ok (.invokestatic 26, 3) := by decide +kernel
theorem dX1_above_19 : decode cX1_above 19 = .ok (.iadd, 1) := by decide +kernel
theorem dX1_above_20 : decode cX1_above 20 = .ok (.istore_n 2, 1) := by decide +kernel
theorem dX1_above_21 : decode cX1_above 21 = .ok (.iinc 3 1, 3) := by decide +kernel
theorem dX1_above_24 : decode cX1_above 24 = .ok (.goto (-20), 3) := by decide +kernel
theorem dX1_above_7 : decode cX1_above 7 = .ok (.if_icmp .gt 20, 3) := by decide +kernel
theorem dX1_above_27 : decode cX1_above 27 = .ok (.iload_n 2, 1) := by decide +kernel
theorem dX1_above_28 : decode cX1_above 28 = .ok (.ireturn, 1) := by decide +kernel
theorem lX1_above_L4 (x : bo_X) (hx : bo_OK x cX1_above RX1 4 1 21) (σ : bo_M) : ∀ (n : Nat) (w2 : Int32) (w3 : Int32), bo_D x 4 [(0, .ref (bo_a x 32)), (2, .int w2), (3, .int w3)] [] σ (mX1_above_L4 σ n w2 w3) (fun a => bo_N x 27 [(2, .int a)] [] σ) := by
  intro n
  induction n with
  | zero => intro w2 w3; exact bo_none
  | succ n ih =>
    intro w2 w3
    rw [mX1_above_L4]
    refine bo_iload_n hx dX1_above_4 rfl 2 rfl ?_
    refine bo_bipush (v := 7) hx dX1_above_5 (by decide) ?_
    refine bo_icmp_gt hx 27 dX1_above_7 (by decide) ?_ ?_
    · refine bo_sub (L' := [(2, .int w2)]) [1] rfl ?_
      exact bo_arr (fun h => h)
    · refine bo_iload_n hx dX1_above_10 rfl 1 rfl ?_
      refine bo_aload_n hx dX1_above_11 rfl 0 rfl ?_
      refine gf_X1_9 hx dX1_above_12 ?_
      refine bo_iload_n hx dX1_above_15 rfl 2 rfl ?_
      refine bo_goR (z := false) hx (fun rr hh => bo_runS (As := [.ref (bo_a x 33), .int w3]) (S := [.int w2]) hx dX1_above_16 lk_X1_26 ms_X8_at (kX8_at (bo_l x) (bo_g x) hx.inj σ 8 33 w3 bo_c_33 rr hh) ⟨by decide, by decide⟩ rfl rfl (Nat.le_of_ble_eq_true rfl)) (fun v1 hv1 => ?_)
      refine bo_iadd hx dX1_above_19 ?_
      refine bo_istore_n (L' := [(2, .int (w2 + v1)), (0, .ref (bo_a x 32)), (3, .int w3)]) hx dX1_above_20 rfl (by decide) rfl ?_
      refine bo_iinc (L' := [(3, .int (w3 + 1)), (2, .int (w2 + v1)), (0, .ref (bo_a x 32))]) (w := (w3 + 1)) hx dX1_above_21 2 rfl rfl (by decide) rfl ?_
      refine bo_goto hx 4 dX1_above_24 (by decide) ?_
      refine bo_sub (L' := [(0, .ref (bo_a x 32)), (2, .int (w2 + v1)), (3, .int (w3 + 1))]) [2, 1, 0] rfl ?_
      exact ih (w2 + v1) (w3 + 1)
theorem bX1_above (x : bo_X) (hx : bo_OK x cX1_above RX1 4 1 21) (σ : bo_M) (p1 : Int32) : bo_D x 0 [(0, .ref (bo_a x 32)), (1, .int p1)] [] σ (mX1_above σ p1) (bo_Ri x cX1_above σ false) := by
  unfold mX1_above
  refine bo_iconst (v := 0) hx dX1_above_0 (by decide) ?_
  refine bo_istore_n (L' := [(2, .int 0), (0, .ref (bo_a x 32)), (1, .int p1)]) hx dX1_above_1 rfl (by decide) rfl ?_
  refine bo_iload_n hx dX1_above_2 rfl 2 rfl ?_
  refine bo_istore_n (L' := [(3, .int p1), (2, .int 0), (0, .ref (bo_a x 32)), (1, .int p1)]) hx dX1_above_3 rfl (by decide) rfl ?_
  refine bo_sub (L' := [(0, .ref (bo_a x 32)), (2, .int 0), (3, .int p1)]) [2, 1, 0] rfl ?_
  refine bo_seq 27 (fun a => [(2, .int a)]) (fun a => []) (fun a => σ) (lX1_above_L4 x hx σ bo_fuel 0 p1) (fun a2 => ?_)
  refine bo_iload_n hx dX1_above_27 rfl 0 rfl ?_
  exact bo_ret dX1_above_28 (fun h => by cases h)
theorem kX1_above (l : Launch) (g : bo_G) (hi : bo_inj g) (σ : bo_M) (p1 : Int32) : bo_CR l g yX1_above cX1_above 4 (some .int) 1 21 [.ref (g.2.2 32), .int p1] σ false (mX1_above σ p1) :=
  bo_metR rfl (Or.inl ⟨rfl, rfl⟩) (by decide) rfl hi (Nat.le_of_ble_eq_true rfl) (fun x e1 e2 hx => by subst e1; subst e2; exact bX1_above x hx σ p1)
-- BellRope.odds
theorem dX10_odds_0 : decode cX10_odds 0 = .ok (.aload_n 0, 1) := by decide +kernel
theorem dX10_odds_1 : decode cX10_odds 1 = .ok (.iload_n 1, 1) := by decide +kernel
theorem dX10_odds_11 : decode cX10_odds 11 = .ok (.iconst 1, 1) := by decide +kernel
theorem dX10_odds_12 : decode cX10_odds 12 = .ok (.goto 4, 3) := by decide +kernel
theorem dX10_odds_5 : decode cX10_odds 5 = .ok (.iload_n 1, 1) := by decide +kernel
theorem dX10_odds_6 : decode cX10_odds 6 = .ok (.bipush 16, 2) := by decide +kernel
theorem dX10_odds_15 : decode cX10_odds 15 = .ok (.iconst 0, 1) := by decide +kernel
theorem dX10_odds_8 : decode cX10_odds 8 = .ok (.if_icmp .le 7, 3) := by decide +kernel
theorem dX10_odds_2 : decode cX10_odds 2 = .ok (.ifCond .lt 9, 3) := by decide +kernel
theorem dX10_odds_16 : decode cX10_odds 16 = .ok (.invokevirtual 218, 3) := by decide +kernel
theorem dX10_odds_19 : decode cX10_odds 19 = .ok (.istore_n 2, 1) := by decide +kernel
theorem dX10_odds_20 : decode cX10_odds 20 = .ok (.iload_n 2, 1) := by decide +kernel
theorem dX10_odds_26 : decode cX10_odds 26 = .ok (.aload_n 0, 1) := by decide +kernel
theorem dX10_odds_27 : decode cX10_odds 27 = .ok (.getfield 64, 3) := by decide +kernel
theorem dX10_odds_30 : decode cX10_odds 30 = .ok (.invokevirtual 269, 3) := by decide +kernel
theorem dX10_odds_33 : decode cX10_odds 33 = .ok (.aload_n 0, 1) := by decide +kernel
theorem dX10_odds_34 : decode cX10_odds 34 = .ok (.getfield 19, 3) := by decide +kernel
theorem dX10_odds_37 : decode cX10_odds 37 = .ok (.aload_n 0, 1) := by decide +kernel
theorem dX10_odds_38 : decode cX10_odds 38 = .ok (.getfield 71, 3) := by decide +kernel
theorem dX10_odds_41 : decode cX10_odds 41 = .ok (.invokevirtual 176, 3) := by decide +kernel
theorem dX10_odds_44 : decode cX10_odds 44 = .ok (.istore_n 3, 1) := by decide +kernel
theorem dX10_odds_45 : decode cX10_odds 45 = .ok (.iconst 0, 1) := by decide +kernel
theorem dX10_odds_46 : decode cX10_odds 46 = .ok (.istore 4, 2) := by decide +kernel
theorem dX10_odds_48 : decode cX10_odds 48 = .ok (.iload 4, 2) := by decide +kernel
theorem dX10_odds_50 : decode cX10_odds 50 = .ok (.aload_n 0, 1) := by decide +kernel
theorem dX10_odds_51 : decode cX10_odds 51 = .ok (.getfield 71, 3) := by decide +kernel
theorem dX10_odds_54 : decode cX10_odds 54 = .ok (.getfield 102, 3) := by decide +kernel
theorem dX10_odds_60 : decode cX10_odds 60 = .ok (.iload_n 3, 1) := by decide +kernel
theorem dX10_odds_61 : decode cX10_odds 61 = .ok (.iload 4, 2) := by decide +kernel
theorem dX10_odds_63 : decode cX10_odds 63 = .ok (.invokestatic 166, 3) := by decide +kernel
theorem dX10_odds_66 : decode cX10_odds 66 = .ok (.iconst 1, 1) := by decide +kernel
theorem dX10_odds_70 : decode cX10_odds 70 = .ok (.aload_n 0, 1) := by decide +kernel
theorem dX10_odds_71 : decode cX10_odds 71 = .ok (.getfield 64, 3) := by decide +kernel
theorem dX10_odds_74 : decode cX10_odds 74 = .ok (.aload_n 0, 1) := by decide +kernel
theorem dX10_odds_75 : decode cX10_odds 75 = .ok (.getfield 71, 3) := by decide +kernel
theorem dX10_odds_78 : decode cX10_odds 78 = .ok (.getfield 163, 3) := by decide +kernel
theorem dX10_odds_81 : decode cX10_odds 81 = .ok (.iload 4, 2) := by decide +kernel
theorem dX10_odds_83 : decode cX10_odds 83 = .ok (.invokestatic 154, 3) := by decide +kernel
theorem dX10_odds_86 : decode cX10_odds 86 = .ok (.invokevirtual 272, 3) := by decide +kernel
theorem dX10_odds_67 : decode cX10_odds 67 = .ok (.if_icmp .ne 22, 3) := by decide +kernel
theorem dX10_odds_89 : decode cX10_odds 89 = .ok (.iinc 4 1, 3) := by decide +kernel
theorem dX10_odds_92 : decode cX10_odds 92 = .ok (.goto (-44), 3) := by decide +kernel
theorem dX10_odds_57 : decode cX10_odds 57 = .ok (.if_icmp .ge 38, 3) := by decide +kernel
theorem dX10_odds_95 : decode cX10_odds 95 = .ok (.aload_n 0, 1) := by decide +kernel
theorem dX10_odds_96 : decode cX10_odds 96 = .ok (.getfield 64, 3) := by decide +kernel
theorem dX10_odds_99 : decode cX10_odds 99 = .ok (.iload_n 1, 1) := by decide +kernel
theorem dX10_odds_100 : decode cX10_odds 100 = .ok (.invokevirtual 276, 3) := by decide +kernel
theorem dX10_odds_103 : decode cX10_odds 103 = .ok (.ireturn, 1) := by decide +kernel
theorem dX10_odds_24 : decode cX10_odds 24 = .ok (.iload_n 2, 1) := by decide +kernel
theorem dX10_odds_25 : decode cX10_odds 25 = .ok (.ireturn, 1) := by decide +kernel
theorem dX10_odds_21 : decode cX10_odds 21 = .ok (.ifCond .eq 5, 3) := by decide +kernel
theorem lX10_odds_L48 (x : bo_X) (hx : bo_OK x cX10_odds RX10 5 3 67) (f1 : Int32) (f3 : Int32) : ∀ (n : Nat) (w4 : Int32) (σ : bo_M), bo_D x 48 [(0, .ref (bo_a x 0)), (1, .int f1), (3, .int f3), (4, .int w4)] [] σ (mX10_odds_L48 f1 f3 n w4 σ) (fun a => bo_N x 95 [(0, .ref (bo_a x 0)), (1, .int f1)] [] a) := by
  intro n
  induction n with
  | zero => intro w4 σ; exact bo_none
  | succ n ih =>
    intro w4 σ
    rw [mX10_odds_L48]
    refine bo_iload hx dX10_odds_48 3 rfl ?_
    refine bo_aload_n hx dX10_odds_50 rfl 0 rfl ?_
    refine gf_X10_71 hx dX10_odds_51 ?_
    refine gf_X10_102 hx (bo_inn_ok (σ 0 9)) dX10_odds_54 ?_
    refine bo_icmp_ge hx 95 dX10_odds_57 (by decide) ?_ ?_
    · refine bo_sub (L' := [(0, .ref (bo_a x 0)), (1, .int f1)]) [0, 1] rfl ?_
      exact bo_arr (fun h => h)
    · refine bo_iload_n hx dX10_odds_60 rfl 2 rfl ?_
      refine bo_iload hx dX10_odds_61 3 rfl ?_
      refine bo_goR (z := false) hx (fun rr hh => bo_runS (As := [.int f3, .int w4]) (S := []) hx dX10_odds_63 lk_X10_166 ms_X10_bit (kX10_bit (bo_l x) (bo_g x) hx.inj σ f3 w4 rr hh) ⟨by decide, by decide⟩ rfl rfl (Nat.le_of_ble_eq_true rfl)) (fun v5 hv5 => ?_)
      refine bo_iconst (v := 1) hx dX10_odds_66 (by decide) ?_
      refine bo_seq 89 (fun a => [(0, .ref (bo_a x 0)), (1, .int f1), (3, .int f3), (4, .int w4)]) (fun a => []) (fun a => a) ?_ (fun a6 => ?_)
      · refine bo_icmp_ne hx 89 dX10_odds_67 (by decide) ?_ ?_
        · exact bo_arr (fun h => h)
        · refine bo_aload_n hx dX10_odds_70 rfl 0 rfl ?_
          refine gf_X10_64 hx dX10_odds_71 ?_
          refine bo_aload_n hx dX10_odds_74 rfl 0 rfl ?_
          refine gf_X10_71 hx dX10_odds_75 ?_
          refine gf_X10_163 hx (bo_inn_ok (σ 0 9)) dX10_odds_78 ?_
          refine bo_iload hx dX10_odds_81 3 rfl ?_
          refine bo_goR (z := false) hx (fun rr hh => bo_runS (As := [.ref (bo_a x ((bo_inn (σ 0 9)) + 3)), .int w4]) (S := [.ref (bo_a x 32)]) hx dX10_odds_83 lk_X10_154 ms_X8_at (kX8_at (bo_l x) (bo_g x) hx.inj σ 7 ((bo_inn (σ 0 9)) + 3) w4 (bo_inn_ok (σ 0 9)).a3 rr hh) ⟨by decide, by decide⟩ rfl rfl (Nat.le_of_ble_eq_true rfl)) (fun v7 hv7 => ?_)
          refine bo_goV hx (fun rr hh => bo_runV (As := [.int v7]) (S := []) hx dX10_odds_86 lk_X10_272 mi_X1_lift bo_o_32 rfl rfl (kX1_lift (bo_l x) (bo_g x) hx.inj σ v7 rr hh) ⟨by decide, by decide⟩ rfl rfl (Nat.le_of_ble_eq_true rfl)) (fun σ8 => ?_)
          exact bo_arr (fun h => h)
      · refine bo_iinc (L' := [(4, .int (w4 + 1)), (0, .ref (bo_a x 0)), (1, .int f1), (3, .int f3)]) (w := (w4 + 1)) hx dX10_odds_89 3 rfl rfl (by decide) rfl ?_
        refine bo_goto hx 48 dX10_odds_92 (by decide) ?_
        refine bo_sub (L' := [(0, .ref (bo_a x 0)), (1, .int f1), (3, .int f3), (4, .int (w4 + 1))]) [1, 2, 3, 0] rfl ?_
        exact ih (w4 + 1) a6
theorem bX10_odds (x : bo_X) (hx : bo_OK x cX10_odds RX10 5 3 67) (σ : bo_M) (p1 : Int32) : bo_D x 0 [(0, .ref (bo_a x 0)), (1, .int p1)] [] σ (mX10_odds σ p1) (bo_Rw x cX10_odds false) := by
  unfold mX10_odds
  refine bo_aload_n hx dX10_odds_0 rfl 0 rfl ?_
  refine bo_iload_n hx dX10_odds_1 rfl 1 rfl ?_
  refine bo_seq 16 (fun a => [(0, .ref (bo_a x 0)), (1, .int p1)]) (fun a => [.int a, .ref (bo_a x 0)]) (fun a => σ) ?_ (fun a1 => ?_)
  · refine bo_if_lt hx 11 dX10_odds_2 (by decide) ?_ ?_
    · refine bo_iconst (v := 1) hx dX10_odds_11 (by decide) ?_
      refine bo_goto hx 16 dX10_odds_12 (by decide) ?_
      exact bo_arr (fun h => h)
    · refine bo_iload_n hx dX10_odds_5 rfl 1 rfl ?_
      refine bo_bipush (v := 16) hx dX10_odds_6 (by decide) ?_
      refine bo_icmp_le hx 15 dX10_odds_8 (by decide) ?_ ?_
      · refine bo_iconst (v := 0) hx dX10_odds_15 (by decide) ?_
        exact bo_arr (fun h => h)
      · refine bo_iconst (v := 1) hx dX10_odds_11 (by decide) ?_
        refine bo_goto hx 16 dX10_odds_12 (by decide) ?_
        exact bo_arr (fun h => h)
  · refine bo_goR (z := false) hx (fun rr hh => bo_runV (As := [.int a1]) (S := []) hx dX10_odds_16 lk_X10_218 mi_X10_refused bo_o_0 rfl rfl (kX10_refused (bo_l x) (bo_g x) hx.inj σ a1 rr hh) ⟨by decide, by decide⟩ rfl rfl (Nat.le_of_ble_eq_true rfl)) (fun v2 hv2 => ?_)
    refine bo_istore_n (L' := [(2, .int v2), (0, .ref (bo_a x 0)), (1, .int p1)]) hx dX10_odds_19 rfl (by decide) rfl ?_
    refine bo_iload_n hx dX10_odds_20 rfl 0 rfl ?_
    refine bo_if_eq hx 26 dX10_odds_21 (by decide) ?_ ?_
    · refine bo_aload_n hx dX10_odds_26 rfl 1 rfl ?_
      refine gf_X10_64 hx dX10_odds_27 ?_
      refine bo_goV hx (fun rr hh => bo_runV (As := []) (S := []) hx dX10_odds_30 lk_X10_269 mi_X1_restart bo_o_32 rfl rfl (kX1_restart (bo_l x) (bo_g x) hx.inj σ rr hh) ⟨by decide, by decide⟩ rfl rfl (Nat.le_of_ble_eq_true rfl)) (fun σ3 => ?_)
      refine bo_aload_n hx dX10_odds_33 rfl 1 rfl ?_
      refine gf_X10_19 hx dX10_odds_34 ?_
      refine bo_aload_n hx dX10_odds_37 rfl 1 rfl ?_
      refine gf_X10_71 hx dX10_odds_38 ?_
      refine bo_goR (z := false) hx (fun rr hh => bo_runV (As := [.ref (bo_a x (bo_inn (σ3 0 9)))]) (S := []) hx dX10_odds_41 lk_X10_176 mi_X2_thirsty bo_ev50.o rfl rfl (kX2_thirsty (bo_l x) (bo_g x) hx.inj σ3 50 (bo_inn (σ3 0 9)) bo_ev50 (bo_inn_ok (σ3 0 9)) rr hh) ⟨by decide, by decide⟩ rfl rfl (Nat.le_of_ble_eq_true rfl)) (fun v4 hv4 => ?_)
      refine bo_istore_n (L' := [(3, .int v4), (2, .int v2), (0, .ref (bo_a x 0)), (1, .int p1)]) hx dX10_odds_44 rfl (by decide) rfl ?_
      refine bo_iconst (v := 0) hx dX10_odds_45 (by decide) ?_
      refine bo_istore (L' := [(4, .int 0), (3, .int v4), (2, .int v2), (0, .ref (bo_a x 0)), (1, .int p1)]) hx dX10_odds_46 (by decide) rfl ?_
      refine bo_sub (L' := [(0, .ref (bo_a x 0)), (1, .int p1), (3, .int v4), (4, .int 0)]) [3, 4, 1, 0] rfl ?_
      refine bo_seq 95 (fun a => [(0, .ref (bo_a x 0)), (1, .int p1)]) (fun a => []) (fun a => a) (lX10_odds_L48 x hx p1 v4 bo_fuel 0 σ3) (fun a9 => ?_)
      refine bo_aload_n hx dX10_odds_95 rfl 0 rfl ?_
      refine gf_X10_64 hx dX10_odds_96 ?_
      refine bo_iload_n hx dX10_odds_99 rfl 1 rfl ?_
      refine bo_goR (z := false) hx (fun rr hh => bo_runV (As := [.int p1]) (S := []) hx dX10_odds_100 lk_X10_276 mi_X1_above bo_o_32 rfl rfl (kX1_above (bo_l x) (bo_g x) hx.inj a9 p1 rr hh) ⟨by decide, by decide⟩ rfl rfl (Nat.le_of_ble_eq_true rfl)) (fun v10 hv10 => ?_)
      exact bo_retw dX10_odds_103 (fun h => by cases h)
    · refine bo_iload_n hx dX10_odds_24 rfl 0 rfl ?_
      exact bo_retw dX10_odds_25 (fun h => by cases h)
theorem kX10_odds (l : Launch) (g : bo_G) (hi : bo_inj g) (σ : bo_M) (p1 : Int32) : bo_CW l g yX10_odds cX10_odds 5 (some .int) 3 67 [.ref (g.2.2 0), .int p1] σ false (mX10_odds σ p1) :=
  bo_metW rfl (Or.inl ⟨rfl, rfl⟩) (by decide) rfl hi (Nat.le_of_ble_eq_true rfl) (fun x e1 e2 hx => by subst e1; subst e2; exact bX10_odds x hx σ p1)
-- BellRope.most
theorem dX10_most_0 : decode cX10_most 0 = .ok (.iconst (-1), 1) := by decide +kernel
theorem dX10_most_1 : decode cX10_most 1 = .ok (.istore_n 1, 1) := by decide +kernel
theorem dX10_most_2 : decode cX10_most 2 = .ok (.iconst 0, 1) := by decide +kernel
theorem dX10_most_3 : decode cX10_most 3 = .ok (.istore_n 2, 1) := by decide +kernel
theorem dX10_most_4 : decode cX10_most 4 = .ok (.iconst 0, 1) := by decide +kernel
theorem dX10_most_5 : decode cX10_most 5 = .ok (.istore_n 3, 1) := by decide +kernel
theorem dX10_most_6 : decode cX10_most 6 = .ok (.iload_n 3, 1) := by decide +kernel
theorem dX10_most_7 : decode cX10_most 7 = .ok (.aload_n 0, 1) := by decide +kernel
theorem dX10_most_8 : decode cX10_most 8 = .ok (.getfield 71, 3) := by decide +kernel
theorem dX10_most_11 : decode cX10_most 11 = .ok (.getfield 102, 3) := by decide +kernel
theorem dX10_most_17 : decode cX10_most 17 = .ok (.aload_n 0, 1) := by decide +kernel
theorem dX10_most_18 : decode cX10_most 18 = .ok (.getfield 19, 3) := by decide +kernel
theorem dX10_most_21 : decode cX10_most 21 = .ok (.getfield 170, 3) := by decide +kernel
theorem dX10_most_24 : decode cX10_most 24 = .ok (.iload_n 3, 1) := by decide +kernel
theorem dX10_most_25 : decode cX10_most 25 = .ok (.invokestatic 154, 3) := by decide +kernel
theorem dX10_most_28 : decode cX10_most 28 = .ok (.iload_n 2, 1) := by decide +kernel
theorem dX10_most_32 : decode cX10_most 32 = .ok (.aload_n 0, 1) := by decide +kernel
theorem dX10_most_33 : decode cX10_most 33 = .ok (.getfield 19, 3) := by decide +kernel
theorem dX10_most_36 : decode cX10_most 36 = .ok (.getfield 170, 3) := by decide +kernel
theorem dX10_most_39 : decode cX10_most 39 = .ok (.iload_n 3, 1) := by decide +kernel
theorem dX10_most_40 : decode cX10_most 40 = .ok (.invokestatic 154, 3) := by decide +kernel
theorem dX10_most_43 : decode cX10_most 43 = .ok (.istore_n 2, 1) := by decide +kernel
theorem dX10_most_44 : decode cX10_most 44 = .ok (.iload_n 3, 1) := by decide +kernel
theorem dX10_most_45 : decode cX10_most 45 = .ok (.istore_n 1, 1) := by decide +kernel
theorem dX10_most_29 : decode cX10_most 29 = .ok (.if_icmp .le 17, 3) := by decide +kernel
theorem dX10_most_46 : decode cX10_most 46 = .ok (.iinc 3 1, 3) := by decide +kernel
theorem dX10_most_49 : decode cX10_most 49 = .ok (.goto (-43), 3) := by decide +kernel
theorem dX10_most_14 : decode cX10_most 14 = .ok (.if_icmp .ge 38, 3) := by decide +kernel
theorem dX10_most_52 : decode cX10_most 52 = .ok (.iload_n 1, 1) := by decide +kernel
theorem dX10_most_53 : decode cX10_most 53 = .ok (.ireturn, 1) := by decide +kernel
theorem lX10_most_L6 (x : bo_X) (hx : bo_OK x cX10_most RX10 4 1 21) (σ : bo_M) : ∀ (n : Nat) (w1 : Int32) (w2 : Int32) (w3 : Int32), bo_D x 6 [(0, .ref (bo_a x 0)), (1, .int w1), (2, .int w2), (3, .int w3)] [] σ (mX10_most_L6 σ n w1 w2 w3) (fun a => bo_N x 52 [(1, .int a)] [] σ) := by
  intro n
  induction n with
  | zero => intro w1 w2 w3; exact bo_none
  | succ n ih =>
    intro w1 w2 w3
    rw [mX10_most_L6]
    refine bo_iload_n hx dX10_most_6 rfl 3 rfl ?_
    refine bo_aload_n hx dX10_most_7 rfl 0 rfl ?_
    refine gf_X10_71 hx dX10_most_8 ?_
    refine gf_X10_102 hx (bo_inn_ok (σ 0 9)) dX10_most_11 ?_
    refine bo_icmp_ge hx 52 dX10_most_14 (by decide) ?_ ?_
    · refine bo_sub (L' := [(1, .int w1)]) [1] rfl ?_
      exact bo_arr (fun h => h)
    · refine bo_aload_n hx dX10_most_17 rfl 0 rfl ?_
      refine gf_X10_19 hx dX10_most_18 ?_
      refine gf_X10_170 hx bo_ev50 dX10_most_21 ?_
      refine bo_iload_n hx dX10_most_24 rfl 3 rfl ?_
      refine bo_goR (z := false) hx (fun rr hh => bo_runS (As := [.ref (bo_a x 51), .int w3]) (S := []) hx dX10_most_25 lk_X10_154 ms_X8_at (kX8_at (bo_l x) (bo_g x) hx.inj σ 7 51 w3 bo_ev50.a1 rr hh) ⟨by decide, by decide⟩ rfl rfl (Nat.le_of_ble_eq_true rfl)) (fun v1 hv1 => ?_)
      refine bo_iload_n hx dX10_most_28 rfl 2 rfl ?_
      refine bo_seq 46 (fun a => [(0, .ref (bo_a x 0)), (1, .int a.1), (2, .int a.2), (3, .int w3)]) (fun a => []) (fun a => σ) ?_ (fun a2 => ?_)
      · refine bo_icmp_le hx 46 dX10_most_29 (by decide) ?_ ?_
        · exact bo_arr (fun h => h)
        · refine bo_aload_n hx dX10_most_32 rfl 0 rfl ?_
          refine gf_X10_19 hx dX10_most_33 ?_
          refine gf_X10_170 hx bo_ev50 dX10_most_36 ?_
          refine bo_iload_n hx dX10_most_39 rfl 3 rfl ?_
          refine bo_goR (z := false) hx (fun rr hh => bo_runS (As := [.ref (bo_a x 51), .int w3]) (S := []) hx dX10_most_40 lk_X10_154 ms_X8_at (kX8_at (bo_l x) (bo_g x) hx.inj σ 7 51 w3 bo_ev50.a1 rr hh) ⟨by decide, by decide⟩ rfl rfl (Nat.le_of_ble_eq_true rfl)) (fun v3 hv3 => ?_)
          refine bo_istore_n (L' := [(2, .int v3), (0, .ref (bo_a x 0)), (1, .int w1), (3, .int w3)]) hx dX10_most_43 rfl (by decide) rfl ?_
          refine bo_iload_n hx dX10_most_44 rfl 3 rfl ?_
          refine bo_istore_n (L' := [(1, .int w3), (2, .int v3), (0, .ref (bo_a x 0)), (3, .int w3)]) hx dX10_most_45 rfl (by decide) rfl ?_
          refine bo_sub (L' := [(0, .ref (bo_a x 0)), (1, .int w3), (2, .int v3), (3, .int w3)]) [2, 0, 1, 3] rfl ?_
          exact bo_arr (fun h => h)
      · refine bo_iinc (L' := [(3, .int (w3 + 1)), (0, .ref (bo_a x 0)), (1, .int a2.1), (2, .int a2.2)]) (w := (w3 + 1)) hx dX10_most_46 3 rfl rfl (by decide) rfl ?_
        refine bo_goto hx 6 dX10_most_49 (by decide) ?_
        refine bo_sub (L' := [(0, .ref (bo_a x 0)), (1, .int a2.1), (2, .int a2.2), (3, .int (w3 + 1))]) [1, 2, 3, 0] rfl ?_
        exact ih a2.1 a2.2 (w3 + 1)
theorem bX10_most (x : bo_X) (hx : bo_OK x cX10_most RX10 4 1 21) (σ : bo_M) : bo_D x 0 [(0, .ref (bo_a x 0))] [] σ (mX10_most σ) (bo_Ri x cX10_most σ false) := by
  unfold mX10_most
  refine bo_iconst (v := (-1)) hx dX10_most_0 (by decide) ?_
  refine bo_istore_n (L' := [(1, .int (-1)), (0, .ref (bo_a x 0))]) hx dX10_most_1 rfl (by decide) rfl ?_
  refine bo_iconst (v := 0) hx dX10_most_2 (by decide) ?_
  refine bo_istore_n (L' := [(2, .int 0), (1, .int (-1)), (0, .ref (bo_a x 0))]) hx dX10_most_3 rfl (by decide) rfl ?_
  refine bo_iconst (v := 0) hx dX10_most_4 (by decide) ?_
  refine bo_istore_n (L' := [(3, .int 0), (2, .int 0), (1, .int (-1)), (0, .ref (bo_a x 0))]) hx dX10_most_5 rfl (by decide) rfl ?_
  refine bo_sub (L' := [(0, .ref (bo_a x 0)), (1, .int (-1)), (2, .int 0), (3, .int 0)]) [3, 2, 1, 0] rfl ?_
  refine bo_seq 52 (fun a => [(1, .int a)]) (fun a => []) (fun a => σ) (lX10_most_L6 x hx σ bo_fuel (-1) 0 0) (fun a4 => ?_)
  refine bo_iload_n hx dX10_most_52 rfl 0 rfl ?_
  exact bo_ret dX10_most_53 (fun h => by cases h)
theorem kX10_most (l : Launch) (g : bo_G) (hi : bo_inj g) (σ : bo_M) : bo_CR l g yX10_most cX10_most 4 (some .int) 1 21 [.ref (g.2.2 0)] σ false (mX10_most σ) :=
  bo_metR rfl (Or.inl ⟨rfl, rfl⟩) (by decide) rfl hi (Nat.le_of_ble_eq_true rfl) (fun x e1 e2 hx => by subst e1; subst e2; exact bX10_most x hx σ)
-- BellRope.leastCommon
theorem dX10_leastCommon_0 : decode cX10_leastCommon 0 = .ok (.iload_n 0, 1) := by decide +kernel
theorem dX10_leastCommon_1 : decode cX10_leastCommon 1 = .ok (.iconst 1, 1) := by decide +kernel
theorem dX10_leastCommon_10 : decode cX10_leastCommon 10 = .ok (.iconst 1, 1) := by decide +kernel
theorem dX10_leastCommon_11 : decode cX10_leastCommon 11 = .ok (.ireturn, 1) := by decide +kernel
theorem dX10_leastCommon_5 : decode cX10_leastCommon 5 = .ok (.iload_n 1, 1) := by decide +kernel
theorem dX10_leastCommon_6 : decode cX10_leastCommon 6 = .ok (.iconst 1, 1) := by decide +kernel
theorem dX10_leastCommon_12 : decode cX10_leastCommon 12 = .ok (.iload_n 0, 1) := by decide +kernel
theorem dX10_leastCommon_13 : decode cX10_leastCommon 13 = .ok (.istore_n 2, 1) := by decide +kernel
theorem dX10_leastCommon_14 : decode cX10_leastCommon 14 = .ok (.iconst 1, 1) := by decide +kernel
theorem dX10_leastCommon_15 : decode cX10_leastCommon 15 = .ok (.istore_n 3, 1) := by decide +kernel
theorem dX10_leastCommon_16 : decode cX10_leastCommon 16 = .ok (.iload_n 3, 1) := by decide +kernel
theorem dX10_leastCommon_17 : decode cX10_leastCommon 17 = .ok (.iload_n 1, 1) := by decide +kernel
theorem dX10_leastCommon_21 : decode cX10_leastCommon 21 = .ok (.iload_n 2, 1) := by decide +kernel
theorem dX10_leastCommon_22 : decode cX10_leastCommon 22 = .ok (.iload_n 1, 1) := by decide +kernel
theorem dX10_leastCommon_23 : decode cX10_leastCommon 23 = .ok (.irem, 1) := by decide +kernel
theorem dX10_leastCommon_27 : decode cX10_leastCommon 27 = .ok (.iload_n 2, 1) := by decide +kernel
theorem dX10_leastCommon_28 : decode cX10_leastCommon 28 = .ok (.ldc_w 342, 3) := by decide +kernel
theorem dX10_leastCommon_34 : decode cX10_leastCommon 34 = .ok (.iload_n 2, 1) := by decide +kernel
theorem dX10_leastCommon_35 : decode cX10_leastCommon 35 = .ok (.iload_n 0, 1) := by decide +kernel
theorem dX10_leastCommon_36 : decode cX10_leastCommon 36 = .ok (.iadd, 1) := by decide +kernel
theorem dX10_leastCommon_37 : decode cX10_leastCommon 37 = .ok (.istore_n 2, 1) := by decide +kernel
theorem dX10_leastCommon_38 : decode cX10_leastCommon 38 = .ok (.iinc 3 1, 3) := by decide +kernel
theorem dX10_leastCommon_41 : decode cX10_leastCommon 41 = .ok (.goto (-25), 3) := by decide +kernel
theorem dX10_leastCommon_31 : decode cX10_leastCommon 31 = .ok (.if_icmp .ge 13, 3) := by decide +kernel
theorem dX10_leastCommon_24 : decode cX10_leastCommon 24 = .ok (.ifCond .eq 20, 3) := by decide +kernel
theorem dX10_leastCommon_18 : decode cX10_leastCommon 18 = .ok (.if_icmp .ge 26, 3) := by decide +kernel
theorem dX10_leastCommon_44 : decode cX10_leastCommon 44 = .ok (.iload_n 2, 1) := by decide +kernel
theorem dX10_leastCommon_45 : decode cX10_leastCommon 45 = .ok (.ldc_w 342, 3) := by decide +kernel
theorem dX10_leastCommon_48 : decode cX10_leastCommon 48 = .ok (.invokestatic 343, 3) := by decide +kernel
theorem dX10_leastCommon_51 : decode cX10_leastCommon 51 = .ok (.ireturn, 1) := by decide +kernel
theorem dX10_leastCommon_7 : decode cX10_leastCommon 7 = .ok (.if_icmp .ge 5, 3) := by decide +kernel
theorem dX10_leastCommon_2 : decode cX10_leastCommon 2 = .ok (.if_icmp .lt 8, 3) := by decide +kernel
theorem lX10_leastCommon_L16 (x : bo_X) (hx : bo_OK x cX10_leastCommon RX10 4 1 24) (σ : bo_M) (f0 : Int32) (f1 : Int32) : ∀ (n : Nat) (w2 : Int32) (w3 : Int32), bo_D x 16 [(0, .int f0), (1, .int f1), (2, .int w2), (3, .int w3)] [] σ (mX10_leastCommon_L16 σ f0 f1 n w2 w3) (fun a => bo_N x 44 [(2, .int a)] [] σ) := by
  intro n
  induction n with
  | zero => intro w2 w3; exact bo_none
  | succ n ih =>
    intro w2 w3
    rw [mX10_leastCommon_L16]
    refine bo_iload_n hx dX10_leastCommon_16 rfl 3 rfl ?_
    refine bo_iload_n hx dX10_leastCommon_17 rfl 1 rfl ?_
    refine bo_icmp_ge hx 44 dX10_leastCommon_18 (by decide) ?_ ?_
    · refine bo_sub (L' := [(2, .int w2)]) [2] rfl ?_
      exact bo_arr (fun h => h)
    · refine bo_iload_n hx dX10_leastCommon_21 rfl 2 rfl ?_
      refine bo_iload_n hx dX10_leastCommon_22 rfl 1 rfl ?_
      refine bo_irem hx dX10_leastCommon_23 (fun v1 => ?_)
      refine bo_if_eq hx 44 dX10_leastCommon_24 (by decide) ?_ ?_
      · refine bo_sub (L' := [(2, .int w2)]) [2] rfl ?_
        exact bo_arr (fun h => h)
      · refine bo_iload_n hx dX10_leastCommon_27 rfl 2 rfl ?_
        refine bo_ldcw (v := 999999) hx dX10_leastCommon_28 wc_X10_342 ?_
        refine bo_icmp_ge hx 44 dX10_leastCommon_31 (by decide) ?_ ?_
        · refine bo_sub (L' := [(2, .int w2)]) [2] rfl ?_
          exact bo_arr (fun h => h)
        · refine bo_iload_n hx dX10_leastCommon_34 rfl 2 rfl ?_
          refine bo_iload_n hx dX10_leastCommon_35 rfl 0 rfl ?_
          refine bo_iadd hx dX10_leastCommon_36 ?_
          refine bo_istore_n (L' := [(2, .int (w2 + f0)), (0, .int f0), (1, .int f1), (3, .int w3)]) hx dX10_leastCommon_37 rfl (by decide) rfl ?_
          refine bo_iinc (L' := [(3, .int (w3 + 1)), (2, .int (w2 + f0)), (0, .int f0), (1, .int f1)]) (w := (w3 + 1)) hx dX10_leastCommon_38 3 rfl rfl (by decide) rfl ?_
          refine bo_goto hx 16 dX10_leastCommon_41 (by decide) ?_
          refine bo_sub (L' := [(0, .int f0), (1, .int f1), (2, .int (w2 + f0)), (3, .int (w3 + 1))]) [2, 3, 1, 0] rfl ?_
          exact ih (w2 + f0) (w3 + 1)
theorem bX10_leastCommon (x : bo_X) (hx : bo_OK x cX10_leastCommon RX10 4 1 24) (σ : bo_M) (p0 : Int32) (p1 : Int32) : bo_D x 0 [(0, .int p0), (1, .int p1)] [] σ (mX10_leastCommon σ p0 p1) (bo_Ri x cX10_leastCommon σ false) := by
  unfold mX10_leastCommon
  refine bo_iload_n hx dX10_leastCommon_0 rfl 0 rfl ?_
  refine bo_iconst (v := 1) hx dX10_leastCommon_1 (by decide) ?_
  refine bo_icmp_lt hx 10 dX10_leastCommon_2 (by decide) ?_ ?_
  · refine bo_iconst (v := 1) hx dX10_leastCommon_10 (by decide) ?_
    exact bo_ret dX10_leastCommon_11 (fun h => by cases h)
  · refine bo_iload_n hx dX10_leastCommon_5 rfl 1 rfl ?_
    refine bo_iconst (v := 1) hx dX10_leastCommon_6 (by decide) ?_
    refine bo_icmp_ge hx 12 dX10_leastCommon_7 (by decide) ?_ ?_
    · refine bo_iload_n hx dX10_leastCommon_12 rfl 0 rfl ?_
      refine bo_istore_n (L' := [(2, .int p0), (0, .int p0), (1, .int p1)]) hx dX10_leastCommon_13 rfl (by decide) rfl ?_
      refine bo_iconst (v := 1) hx dX10_leastCommon_14 (by decide) ?_
      refine bo_istore_n (L' := [(3, .int 1), (2, .int p0), (0, .int p0), (1, .int p1)]) hx dX10_leastCommon_15 rfl (by decide) rfl ?_
      refine bo_sub (L' := [(0, .int p0), (1, .int p1), (2, .int p0), (3, .int 1)]) [2, 3, 1, 0] rfl ?_
      refine bo_seq 44 (fun a => [(2, .int a)]) (fun a => []) (fun a => σ) (lX10_leastCommon_L16 x hx σ p0 p1 bo_fuel p0 1) (fun a2 => ?_)
      refine bo_iload_n hx dX10_leastCommon_44 rfl 0 rfl ?_
      refine bo_ldcw (v := 999999) hx dX10_leastCommon_45 wc_X10_342 ?_
      refine bo_min hx dX10_leastCommon_48 lk_X10_343 mm_min_1 mm_i mm_min_2 (by decide) (Nat.le_of_ble_eq_true rfl) ?_
      exact bo_ret dX10_leastCommon_51 (fun h => by cases h)
    · refine bo_iconst (v := 1) hx dX10_leastCommon_10 (by decide) ?_
      exact bo_ret dX10_leastCommon_11 (fun h => by cases h)
theorem kX10_leastCommon (l : Launch) (g : bo_G) (hi : bo_inj g) (σ : bo_M) (p0 : Int32) (p1 : Int32) : bo_CR l g yX10_leastCommon cX10_leastCommon 4 (some .int) 1 24 [.int p0, .int p1] σ false (mX10_leastCommon σ p0 p1) :=
  bo_metR rfl (Or.inl ⟨rfl, rfl⟩) (by decide) rfl hi (Nat.le_of_ble_eq_true rfl) (fun x e1 e2 hx => by subst e1; subst e2; exact bX10_leastCommon x hx σ p0 p1)
-- BellRope.round
theorem dX10_round_0 : decode cX10_round 0 = .ok (.iconst 1, 1) := by decide +kernel
theorem dX10_round_1 : decode cX10_round 1 = .ok (.istore_n 1, 1) := by decide +kernel
theorem dX10_round_2 : decode cX10_round 2 = .ok (.iconst 0, 1) := by decide +kernel
theorem dX10_round_3 : decode cX10_round 3 = .ok (.istore_n 2, 1) := by decide +kernel
theorem dX10_round_4 : decode cX10_round 4 = .ok (.iload_n 2, 1) := by decide +kernel
theorem dX10_round_5 : decode cX10_round 5 = .ok (.aload_n 0, 1) := by decide +kernel
theorem dX10_round_6 : decode cX10_round 6 = .ok (.getfield 71, 3) := by decide +kernel
theorem dX10_round_9 : decode cX10_round 9 = .ok (.getfield 102, 3) := by decide +kernel
theorem dX10_round_15 : decode cX10_round 15 = .ok (.aload_n 0, 1) := by decide +kernel
theorem dX10_round_16 : decode cX10_round 16 = .ok (.getfield 19, 3) := by decide +kernel
theorem dX10_round_19 : decode cX10_round 19 = .ok (.getfield 123, 3) := by decide +kernel
theorem dX10_round_22 : decode cX10_round 22 = .ok (.iload_n 2, 1) := by decide +kernel
theorem dX10_round_23 : decode cX10_round 23 = .ok (.invokestatic 166, 3) := by decide +kernel
theorem dX10_round_26 : decode cX10_round 26 = .ok (.iconst 1, 1) := by decide +kernel
theorem dX10_round_30 : decode cX10_round 30 = .ok (.iload_n 1, 1) := by decide +kernel
theorem dX10_round_31 : decode cX10_round 31 = .ok (.aload_n 0, 1) := by decide +kernel
theorem dX10_round_32 : decode cX10_round 32 = .ok (.getfield 71, 3) := by decide +kernel
theorem dX10_round_35 : decode cX10_round 35 = .ok (.getfield 150, 3) := by decide +kernel
theorem dX10_round_38 : decode cX10_round 38 = .ok (.iload_n 2, 1) := by decide +kernel
theorem dX10_round_39 : decode cX10_round 39 = .ok (.invokestatic 154, 3) := by decide +kernel
theorem dX10_round_42 : decode cX10_round 42 = .ok (.invokestatic 279, 3) := by decide +kernel
theorem dX10_round_45 : decode cX10_round 45 = .ok (.istore_n 1, 1) := by decide +kernel
theorem dX10_round_27 : decode cX10_round 27 = .ok (.if_icmp .ne 19, 3) := by decide +kernel
theorem dX10_round_46 : decode cX10_round 46 = .ok (.iinc 2 1, 3) := by decide +kernel
theorem dX10_round_49 : decode cX10_round 49 = .ok (.goto (-45), 3) := by decide +kernel
theorem dX10_round_12 : decode cX10_round 12 = .ok (.if_icmp .ge 40, 3) := by decide +kernel
theorem dX10_round_52 : decode cX10_round 52 = .ok (.iload_n 1, 1) := by decide +kernel
theorem dX10_round_53 : decode cX10_round 53 = .ok (.ireturn, 1) := by decide +kernel
theorem lX10_round_L4 (x : bo_X) (hx : bo_OK x cX10_round RX10 3 2 47) (σ : bo_M) : ∀ (n : Nat) (w1 : Int32) (w2 : Int32), bo_D x 4 [(0, .ref (bo_a x 0)), (1, .int w1), (2, .int w2)] [] σ (mX10_round_L4 σ n w1 w2) (fun a => bo_N x 52 [(1, .int a)] [] σ) := by
  intro n
  induction n with
  | zero => intro w1 w2; exact bo_none
  | succ n ih =>
    intro w1 w2
    rw [mX10_round_L4]
    refine bo_iload_n hx dX10_round_4 rfl 2 rfl ?_
    refine bo_aload_n hx dX10_round_5 rfl 0 rfl ?_
    refine gf_X10_71 hx dX10_round_6 ?_
    refine gf_X10_102 hx (bo_inn_ok (σ 0 9)) dX10_round_9 ?_
    refine bo_icmp_ge hx 52 dX10_round_12 (by decide) ?_ ?_
    · refine bo_sub (L' := [(1, .int w1)]) [1] rfl ?_
      exact bo_arr (fun h => h)
    · refine bo_aload_n hx dX10_round_15 rfl 0 rfl ?_
      refine gf_X10_19 hx dX10_round_16 ?_
      refine gf_X10_123 hx bo_ev50 dX10_round_19 ?_
      refine bo_iload_n hx dX10_round_22 rfl 2 rfl ?_
      refine bo_goR (z := false) hx (fun rr hh => bo_runS (As := [.int (σ 50 5), .int w2]) (S := []) hx dX10_round_23 lk_X10_166 ms_X10_bit (kX10_bit (bo_l x) (bo_g x) hx.inj σ (σ 50 5) w2 rr hh) ⟨by decide, by decide⟩ rfl rfl (Nat.le_of_ble_eq_true rfl)) (fun v1 hv1 => ?_)
      refine bo_iconst (v := 1) hx dX10_round_26 (by decide) ?_
      refine bo_seq 46 (fun a => [(0, .ref (bo_a x 0)), (1, .int a), (2, .int w2)]) (fun a => []) (fun a => σ) ?_ (fun a2 => ?_)
      · refine bo_icmp_ne hx 46 dX10_round_27 (by decide) ?_ ?_
        · exact bo_arr (fun h => h)
        · refine bo_iload_n hx dX10_round_30 rfl 1 rfl ?_
          refine bo_aload_n hx dX10_round_31 rfl 0 rfl ?_
          refine gf_X10_71 hx dX10_round_32 ?_
          refine gf_X10_150 hx (bo_inn_ok (σ 0 9)) dX10_round_35 ?_
          refine bo_iload_n hx dX10_round_38 rfl 2 rfl ?_
          refine bo_goR (z := false) hx (fun rr hh => bo_runS (As := [.ref (bo_a x ((bo_inn (σ 0 9)) + 1)), .int w2]) (S := [.int w1]) hx dX10_round_39 lk_X10_154 ms_X8_at (kX8_at (bo_l x) (bo_g x) hx.inj σ 7 ((bo_inn (σ 0 9)) + 1) w2 (bo_inn_ok (σ 0 9)).a1 rr hh) ⟨by decide, by decide⟩ rfl rfl (Nat.le_of_ble_eq_true rfl)) (fun v3 hv3 => ?_)
          refine bo_goR (z := false) hx (fun rr hh => bo_runS (As := [.int w1, .int v3]) (S := []) hx dX10_round_42 lk_X10_279 ms_X10_leastCommon (kX10_leastCommon (bo_l x) (bo_g x) hx.inj σ w1 v3 rr hh) ⟨by decide, by decide⟩ rfl rfl (Nat.le_of_ble_eq_true rfl)) (fun v4 hv4 => ?_)
          refine bo_istore_n (L' := [(1, .int v4), (0, .ref (bo_a x 0)), (2, .int w2)]) hx dX10_round_45 rfl (by decide) rfl ?_
          refine bo_sub (L' := [(0, .ref (bo_a x 0)), (1, .int v4), (2, .int w2)]) [1, 0, 2] rfl ?_
          exact bo_arr (fun h => h)
      · refine bo_iinc (L' := [(2, .int (w2 + 1)), (0, .ref (bo_a x 0)), (1, .int a2)]) (w := (w2 + 1)) hx dX10_round_46 2 rfl rfl (by decide) rfl ?_
        refine bo_goto hx 4 dX10_round_49 (by decide) ?_
        refine bo_sub (L' := [(0, .ref (bo_a x 0)), (1, .int a2), (2, .int (w2 + 1))]) [1, 2, 0] rfl ?_
        exact ih a2 (w2 + 1)
theorem bX10_round (x : bo_X) (hx : bo_OK x cX10_round RX10 3 2 47) (σ : bo_M) : bo_D x 0 [(0, .ref (bo_a x 0))] [] σ (mX10_round σ) (bo_Ri x cX10_round σ false) := by
  unfold mX10_round
  refine bo_iconst (v := 1) hx dX10_round_0 (by decide) ?_
  refine bo_istore_n (L' := [(1, .int 1), (0, .ref (bo_a x 0))]) hx dX10_round_1 rfl (by decide) rfl ?_
  refine bo_iconst (v := 0) hx dX10_round_2 (by decide) ?_
  refine bo_istore_n (L' := [(2, .int 0), (1, .int 1), (0, .ref (bo_a x 0))]) hx dX10_round_3 rfl (by decide) rfl ?_
  refine bo_sub (L' := [(0, .ref (bo_a x 0)), (1, .int 1), (2, .int 0)]) [2, 1, 0] rfl ?_
  refine bo_seq 52 (fun a => [(1, .int a)]) (fun a => []) (fun a => σ) (lX10_round_L4 x hx σ bo_fuel 1 0) (fun a5 => ?_)
  refine bo_iload_n hx dX10_round_52 rfl 0 rfl ?_
  exact bo_ret dX10_round_53 (fun h => by cases h)
theorem kX10_round (l : Launch) (g : bo_G) (hi : bo_inj g) (σ : bo_M) : bo_CR l g yX10_round cX10_round 3 (some .int) 2 47 [.ref (g.2.2 0)] σ false (mX10_round σ) :=
  bo_metR rfl (Or.inl ⟨rfl, rfl⟩) (by decide) rfl hi (Nat.le_of_ble_eq_true rfl) (fun x e1 e2 hx => by subst e1; subst e2; exact bX10_round x hx σ)
-- BellRope$Rows.sum
theorem dX8_sum_0 : decode cX8_sum 0 = .ok (.iconst 0, 1) := by decide +kernel
theorem dX8_sum_1 : decode cX8_sum 1 = .ok (.istore_n 1, 1) := by decide +kernel
theorem dX8_sum_2 : decode cX8_sum 2 = .ok (.aload_n 0, 1) := by decide +kernel
theorem dX8_sum_3 : decode cX8_sum 3 = .ok (.ifnonnull 5, 3) := by decide +kernel
theorem dX8_sum_8 : decode cX8_sum 8 = .ok (.iconst 0, 1) := by decide +kernel
theorem dX8_sum_9 : decode cX8_sum 9 = .ok (.istore_n 2, 1) := by decide +kernel
theorem dX8_sum_10 : decode cX8_sum 10 = .ok (.iload_n 2, 1) := by decide +kernel
theorem dX8_sum_11 : decode cX8_sum 11 = .ok (.aload_n 0, 1) := by decide +kernel
theorem dX8_sum_12 : decode cX8_sum 12 = .ok (.arraylength, 1) := by decide +kernel
theorem dX8_sum_16 : decode cX8_sum 16 = .ok (.iload_n 1, 1) := by decide +kernel
theorem dX8_sum_17 : decode cX8_sum 17 = .ok (.aload_n 0, 1) := by decide +kernel
theorem dX8_sum_18 : decode cX8_sum 18 = .ok (.iload_n 2, 1) := by decide +kernel
theorem dX8_sum_19 : decode cX8_sum 19 = .ok (.iaload, 1) := by decide +kernel
theorem dX8_sum_20 : decode cX8_sum 20 = .ok (.iadd, 1) := by decide +kernel
theorem dX8_sum_21 : decode cX8_sum 21 = .ok (.istore_n 1, 1) := by decide +kernel
theorem dX8_sum_22 : decode cX8_sum 22 = .ok (.iinc 2 1, 3) := by decide +kernel
theorem dX8_sum_25 : decode cX8_sum 25 = .ok (.goto (-15), 3) := by decide +kernel
theorem dX8_sum_13 : decode cX8_sum 13 = .ok (.if_icmp .ge 15, 3) := by decide +kernel
theorem dX8_sum_28 : decode cX8_sum 28 = .ok (.iload_n 1, 1) := by decide +kernel
theorem dX8_sum_29 : decode cX8_sum 29 = .ok (.ireturn, 1) := by decide +kernel
theorem lX8_sum_L10 (x : bo_X) (hx : bo_OK x cX8_sum RX8 3 0 0) (σ : bo_M) (n0 : Nat) (f0 : Nat) (hf0 : bo_isA f0 n0) : ∀ (n : Nat) (w1 : Int32) (w2 : Int32), bo_D x 10 [(0, .ref (bo_a x f0)), (1, .int w1), (2, .int w2)] [] σ (mX8_sum_L10 σ n0 f0 n w1 w2) (fun a => bo_N x 28 [(1, .int a)] [] σ) := by
  intro n
  induction n with
  | zero => intro w1 w2; exact bo_none
  | succ n ih =>
    intro w1 w2
    rw [mX8_sum_L10]
    refine bo_iload_n hx dX8_sum_10 rfl 2 rfl ?_
    refine bo_aload_n hx dX8_sum_11 rfl 0 rfl ?_
    refine bo_alen (v := (Int32.ofNat n0)) hx hf0 rfl dX8_sum_12 ?_
    refine bo_icmp_ge hx 28 dX8_sum_13 (by decide) ?_ ?_
    · refine bo_sub (L' := [(1, .int w1)]) [1] rfl ?_
      exact bo_arr (fun h => h)
    · refine bo_iload_n hx dX8_sum_16 rfl 1 rfl ?_
      refine bo_aload_n hx dX8_sum_17 rfl 0 rfl ?_
      refine bo_iload_n hx dX8_sum_18 rfl 2 rfl ?_
      refine bo_iald hx hf0 dX8_sum_19 (fun v1 => ?_)
      refine bo_iadd hx dX8_sum_20 ?_
      refine bo_istore_n (L' := [(1, .int (w1 + v1)), (0, .ref (bo_a x f0)), (2, .int w2)]) hx dX8_sum_21 rfl (by decide) rfl ?_
      refine bo_iinc (L' := [(2, .int (w2 + 1)), (1, .int (w1 + v1)), (0, .ref (bo_a x f0))]) (w := (w2 + 1)) hx dX8_sum_22 2 rfl rfl (by decide) rfl ?_
      refine bo_goto hx 10 dX8_sum_25 (by decide) ?_
      refine bo_sub (L' := [(0, .ref (bo_a x f0)), (1, .int (w1 + v1)), (2, .int (w2 + 1))]) [2, 1, 0] rfl ?_
      exact ih (w1 + v1) (w2 + 1)
theorem bX8_sum (x : bo_X) (hx : bo_OK x cX8_sum RX8 3 0 0) (σ : bo_M) (n0 r0 : Nat) (hr0 : bo_isA r0 n0) : bo_D x 0 [(0, .ref (bo_a x r0))] [] σ (mX8_sum σ n0 r0) (bo_Ri x cX8_sum σ false) := by
  unfold mX8_sum
  refine bo_iconst (v := 0) hx dX8_sum_0 (by decide) ?_
  refine bo_istore_n (L' := [(1, .int 0), (0, .ref (bo_a x r0))]) hx dX8_sum_1 rfl (by decide) rfl ?_
  refine bo_aload_n hx dX8_sum_2 rfl 1 rfl ?_
  refine bo_ifnonnull hx 8 dX8_sum_3 (by decide) ?_
  refine bo_iconst (v := 0) hx dX8_sum_8 (by decide) ?_
  refine bo_istore_n (L' := [(2, .int 0), (1, .int 0), (0, .ref (bo_a x r0))]) hx dX8_sum_9 rfl (by decide) rfl ?_
  refine bo_sub (L' := [(0, .ref (bo_a x r0)), (1, .int 0), (2, .int 0)]) [2, 1, 0] rfl ?_
  refine bo_seq 28 (fun a => [(1, .int a)]) (fun a => []) (fun a => σ) (lX8_sum_L10 x hx σ n0 r0 hr0 bo_fuel 0 0) (fun a2 => ?_)
  refine bo_iload_n hx dX8_sum_28 rfl 0 rfl ?_
  exact bo_ret dX8_sum_29 (fun h => by cases h)
theorem kX8_sum (l : Launch) (g : bo_G) (hi : bo_inj g) (σ : bo_M) (n0 r0 : Nat) (hr0 : bo_isA r0 n0) : bo_CR l g yX8_sum cX8_sum 3 (some .int) 0 0 [.ref (g.2.2 r0)] σ false (mX8_sum σ n0 r0) :=
  bo_metR rfl (Or.inl ⟨rfl, rfl⟩) (by decide) rfl hi (Nat.le_of_ble_eq_true rfl) (fun x e1 e2 hx => by subst e1; subst e2; exact bX8_sum x hx σ n0 r0 hr0)
-- BellRope.payersAhead
theorem dX10_payersAhead_0 : decode cX10_payersAhead 0 = .ok (.iconst 0, 1) := by decide +kernel
theorem dX10_payersAhead_1 : decode cX10_payersAhead 1 = .ok (.istore_n 2, 1) := by decide +kernel
theorem dX10_payersAhead_2 : decode cX10_payersAhead 2 = .ok (.iconst 0, 1) := by decide +kernel
theorem dX10_payersAhead_3 : decode cX10_payersAhead 3 = .ok (.istore_n 3, 1) := by decide +kernel
theorem dX10_payersAhead_4 : decode cX10_payersAhead 4 = .ok (.iload_n 3, 1) := by decide +kernel
theorem dX10_payersAhead_5 : decode cX10_payersAhead 5 = .ok (.aload_n 0, 1) := by decide +kernel
theorem dX10_payersAhead_6 : decode cX10_payersAhead 6 = .ok (.getfield 71, 3) := by decide +kernel
theorem dX10_payersAhead_9 : decode cX10_payersAhead 9 = .ok (.getfield 102, 3) := by decide +kernel
theorem dX10_payersAhead_15 : decode cX10_payersAhead 15 = .ok (.aload_n 0, 1) := by decide +kernel
theorem dX10_payersAhead_16 : decode cX10_payersAhead 16 = .ok (.getfield 19, 3) := by decide +kernel
theorem dX10_payersAhead_19 : decode cX10_payersAhead 19 = .ok (.getfield 170, 3) := by decide +kernel
theorem dX10_payersAhead_22 : decode cX10_payersAhead 22 = .ok (.iload_n 3, 1) := by decide +kernel
theorem dX10_payersAhead_23 : decode cX10_payersAhead 23 = .ok (.invokestatic 154, 3) := by decide +kernel
theorem dX10_payersAhead_26 : decode cX10_payersAhead 26 = .ok (.aload_n 0, 1) := by decide +kernel
theorem dX10_payersAhead_27 : decode cX10_payersAhead 27 = .ok (.getfield 19, 3) := by decide +kernel
theorem dX10_payersAhead_30 : decode cX10_payersAhead 30 = .ok (.getfield 170, 3) := by decide +kernel
theorem dX10_payersAhead_33 : decode cX10_payersAhead 33 = .ok (.iload_n 1, 1) := by decide +kernel
theorem dX10_payersAhead_34 : decode cX10_payersAhead 34 = .ok (.invokestatic 154, 3) := by decide +kernel
theorem dX10_payersAhead_37 : decode cX10_payersAhead 37 = .ok (.isub, 1) := by decide +kernel
theorem dX10_payersAhead_38 : decode cX10_payersAhead 38 = .ok (.istore 4, 2) := by decide +kernel
theorem dX10_payersAhead_40 : decode cX10_payersAhead 40 = .ok (.aload_n 0, 1) := by decide +kernel
theorem dX10_payersAhead_41 : decode cX10_payersAhead 41 = .ok (.getfield 19, 3) := by decide +kernel
theorem dX10_payersAhead_44 : decode cX10_payersAhead 44 = .ok (.getfield 123, 3) := by decide +kernel
theorem dX10_payersAhead_47 : decode cX10_payersAhead 47 = .ok (.iload_n 3, 1) := by decide +kernel
theorem dX10_payersAhead_48 : decode cX10_payersAhead 48 = .ok (.invokestatic 166, 3) := by decide +kernel
theorem dX10_payersAhead_51 : decode cX10_payersAhead 51 = .ok (.iconst 1, 1) := by decide +kernel
theorem dX10_payersAhead_55 : decode cX10_payersAhead 55 = .ok (.iload 4, 2) := by decide +kernel
theorem dX10_payersAhead_70 : decode cX10_payersAhead 70 = .ok (.iinc 2 1, 3) := by decide +kernel
theorem dX10_payersAhead_60 : decode cX10_payersAhead 60 = .ok (.iload 4, 2) := by decide +kernel
theorem dX10_payersAhead_65 : decode cX10_payersAhead 65 = .ok (.iload_n 3, 1) := by decide +kernel
theorem dX10_payersAhead_66 : decode cX10_payersAhead 66 = .ok (.iload_n 1, 1) := by decide +kernel
theorem dX10_payersAhead_67 : decode cX10_payersAhead 67 = .ok (.if_icmp .ge 6, 3) := by decide +kernel
theorem dX10_payersAhead_62 : decode cX10_payersAhead 62 = .ok (.ifCond .ne 11, 3) := by decide +kernel
theorem dX10_payersAhead_57 : decode cX10_payersAhead 57 = .ok (.ifCond .gt 13, 3) := by decide +kernel
theorem dX10_payersAhead_52 : decode cX10_payersAhead 52 = .ok (.if_icmp .ne 21, 3) := by decide +kernel
theorem dX10_payersAhead_73 : decode cX10_payersAhead 73 = .ok (.iinc 3 1, 3) := by decide +kernel
theorem dX10_payersAhead_76 : decode cX10_payersAhead 76 = .ok (.goto (-72), 3) := by decide +kernel
theorem dX10_payersAhead_12 : decode cX10_payersAhead 12 = .ok (.if_icmp .ge 67, 3) := by decide +kernel
theorem dX10_payersAhead_79 : decode cX10_payersAhead 79 = .ok (.iload_n 2, 1) := by decide +kernel
theorem dX10_payersAhead_80 : decode cX10_payersAhead 80 = .ok (.ireturn, 1) := by decide +kernel
theorem lX10_payersAhead_L4 (x : bo_X) (hx : bo_OK x cX10_payersAhead RX10 5 1 21) (σ : bo_M) (f1 : Int32) : ∀ (n : Nat) (w2 : Int32) (w3 : Int32), bo_D x 4 [(0, .ref (bo_a x 0)), (1, .int f1), (2, .int w2), (3, .int w3)] [] σ (mX10_payersAhead_L4 σ f1 n w2 w3) (fun a => bo_N x 79 [(2, .int a)] [] σ) := by
  intro n
  induction n with
  | zero => intro w2 w3; exact bo_none
  | succ n ih =>
    intro w2 w3
    rw [mX10_payersAhead_L4]
    refine bo_iload_n hx dX10_payersAhead_4 rfl 3 rfl ?_
    refine bo_aload_n hx dX10_payersAhead_5 rfl 0 rfl ?_
    refine gf_X10_71 hx dX10_payersAhead_6 ?_
    refine gf_X10_102 hx (bo_inn_ok (σ 0 9)) dX10_payersAhead_9 ?_
    refine bo_icmp_ge hx 79 dX10_payersAhead_12 (by decide) ?_ ?_
    · refine bo_sub (L' := [(2, .int w2)]) [2] rfl ?_
      exact bo_arr (fun h => h)
    · refine bo_aload_n hx dX10_payersAhead_15 rfl 0 rfl ?_
      refine gf_X10_19 hx dX10_payersAhead_16 ?_
      refine gf_X10_170 hx bo_ev50 dX10_payersAhead_19 ?_
      refine bo_iload_n hx dX10_payersAhead_22 rfl 3 rfl ?_
      refine bo_goR (z := false) hx (fun rr hh => bo_runS (As := [.ref (bo_a x 51), .int w3]) (S := []) hx dX10_payersAhead_23 lk_X10_154 ms_X8_at (kX8_at (bo_l x) (bo_g x) hx.inj σ 7 51 w3 bo_ev50.a1 rr hh) ⟨by decide, by decide⟩ rfl rfl (Nat.le_of_ble_eq_true rfl)) (fun v1 hv1 => ?_)
      refine bo_aload_n hx dX10_payersAhead_26 rfl 0 rfl ?_
      refine gf_X10_19 hx dX10_payersAhead_27 ?_
      refine gf_X10_170 hx bo_ev50 dX10_payersAhead_30 ?_
      refine bo_iload_n hx dX10_payersAhead_33 rfl 1 rfl ?_
      refine bo_goR (z := false) hx (fun rr hh => bo_runS (As := [.ref (bo_a x 51), .int f1]) (S := [.int v1]) hx dX10_payersAhead_34 lk_X10_154 ms_X8_at (kX8_at (bo_l x) (bo_g x) hx.inj σ 7 51 f1 bo_ev50.a1 rr hh) ⟨by decide, by decide⟩ rfl rfl (Nat.le_of_ble_eq_true rfl)) (fun v2 hv2 => ?_)
      refine bo_isub hx dX10_payersAhead_37 ?_
      refine bo_istore (L' := [(4, .int (v1 - v2)), (0, .ref (bo_a x 0)), (1, .int f1), (2, .int w2), (3, .int w3)]) hx dX10_payersAhead_38 (by decide) rfl ?_
      refine bo_aload_n hx dX10_payersAhead_40 rfl 1 rfl ?_
      refine gf_X10_19 hx dX10_payersAhead_41 ?_
      refine gf_X10_123 hx bo_ev50 dX10_payersAhead_44 ?_
      refine bo_iload_n hx dX10_payersAhead_47 rfl 4 rfl ?_
      refine bo_goR (z := false) hx (fun rr hh => bo_runS (As := [.int (σ 50 5), .int w3]) (S := []) hx dX10_payersAhead_48 lk_X10_166 ms_X10_bit (kX10_bit (bo_l x) (bo_g x) hx.inj σ (σ 50 5) w3 rr hh) ⟨by decide, by decide⟩ rfl rfl (Nat.le_of_ble_eq_true rfl)) (fun v3 hv3 => ?_)
      refine bo_iconst (v := 1) hx dX10_payersAhead_51 (by decide) ?_
      refine bo_seq 73 (fun a => [(0, .ref (bo_a x 0)), (1, .int f1), (2, .int a), (3, .int w3)]) (fun a => []) (fun a => σ) ?_ (fun a4 => ?_)
      · refine bo_icmp_ne hx 73 dX10_payersAhead_52 (by decide) ?_ ?_
        · refine bo_sub (L' := [(0, .ref (bo_a x 0)), (1, .int f1), (2, .int w2), (3, .int w3)]) [1, 2, 3, 4] rfl ?_
          exact bo_arr (fun h => h)
        · refine bo_iload hx dX10_payersAhead_55 0 rfl ?_
          refine bo_if_gt hx 70 dX10_payersAhead_57 (by decide) ?_ ?_
          · refine bo_iinc (L' := [(2, .int (w2 + 1)), (4, .int (v1 - v2)), (0, .ref (bo_a x 0)), (1, .int f1), (3, .int w3)]) (w := (w2 + 1)) hx dX10_payersAhead_70 3 rfl rfl (by decide) rfl ?_
            refine bo_sub (L' := [(0, .ref (bo_a x 0)), (1, .int f1), (2, .int (w2 + 1)), (3, .int w3)]) [2, 3, 0, 4] rfl ?_
            exact bo_arr (fun h => h)
          · refine bo_iload hx dX10_payersAhead_60 0 rfl ?_
            refine bo_if_ne hx 73 dX10_payersAhead_62 (by decide) ?_ ?_
            · refine bo_sub (L' := [(0, .ref (bo_a x 0)), (1, .int f1), (2, .int w2), (3, .int w3)]) [1, 2, 3, 4] rfl ?_
              exact bo_arr (fun h => h)
            · refine bo_iload_n hx dX10_payersAhead_65 rfl 4 rfl ?_
              refine bo_iload_n hx dX10_payersAhead_66 rfl 2 rfl ?_
              refine bo_icmp_ge hx 73 dX10_payersAhead_67 (by decide) ?_ ?_
              · refine bo_sub (L' := [(0, .ref (bo_a x 0)), (1, .int f1), (2, .int w2), (3, .int w3)]) [1, 2, 3, 4] rfl ?_
                exact bo_arr (fun h => h)
              · refine bo_iinc (L' := [(2, .int (w2 + 1)), (4, .int (v1 - v2)), (0, .ref (bo_a x 0)), (1, .int f1), (3, .int w3)]) (w := (w2 + 1)) hx dX10_payersAhead_70 3 rfl rfl (by decide) rfl ?_
                refine bo_sub (L' := [(0, .ref (bo_a x 0)), (1, .int f1), (2, .int (w2 + 1)), (3, .int w3)]) [2, 3, 0, 4] rfl ?_
                exact bo_arr (fun h => h)
      · refine bo_iinc (L' := [(3, .int (w3 + 1)), (0, .ref (bo_a x 0)), (1, .int f1), (2, .int a4)]) (w := (w3 + 1)) hx dX10_payersAhead_73 3 rfl rfl (by decide) rfl ?_
        refine bo_goto hx 4 dX10_payersAhead_76 (by decide) ?_
        refine bo_sub (L' := [(0, .ref (bo_a x 0)), (1, .int f1), (2, .int a4), (3, .int (w3 + 1))]) [1, 2, 3, 0] rfl ?_
        exact ih a4 (w3 + 1)
theorem bX10_payersAhead (x : bo_X) (hx : bo_OK x cX10_payersAhead RX10 5 1 21) (σ : bo_M) (p1 : Int32) : bo_D x 0 [(0, .ref (bo_a x 0)), (1, .int p1)] [] σ (mX10_payersAhead σ p1) (bo_Ri x cX10_payersAhead σ false) := by
  unfold mX10_payersAhead
  refine bo_iconst (v := 0) hx dX10_payersAhead_0 (by decide) ?_
  refine bo_istore_n (L' := [(2, .int 0), (0, .ref (bo_a x 0)), (1, .int p1)]) hx dX10_payersAhead_1 rfl (by decide) rfl ?_
  refine bo_iconst (v := 0) hx dX10_payersAhead_2 (by decide) ?_
  refine bo_istore_n (L' := [(3, .int 0), (2, .int 0), (0, .ref (bo_a x 0)), (1, .int p1)]) hx dX10_payersAhead_3 rfl (by decide) rfl ?_
  refine bo_sub (L' := [(0, .ref (bo_a x 0)), (1, .int p1), (2, .int 0), (3, .int 0)]) [2, 3, 1, 0] rfl ?_
  refine bo_seq 79 (fun a => [(2, .int a)]) (fun a => []) (fun a => σ) (lX10_payersAhead_L4 x hx σ p1 bo_fuel 0 0) (fun a5 => ?_)
  refine bo_iload_n hx dX10_payersAhead_79 rfl 0 rfl ?_
  exact bo_ret dX10_payersAhead_80 (fun h => by cases h)
theorem kX10_payersAhead (l : Launch) (g : bo_G) (hi : bo_inj g) (σ : bo_M) (p1 : Int32) : bo_CR l g yX10_payersAhead cX10_payersAhead 5 (some .int) 1 21 [.ref (g.2.2 0), .int p1] σ false (mX10_payersAhead σ p1) :=
  bo_metR rfl (Or.inl ⟨rfl, rfl⟩) (by decide) rfl hi (Nat.le_of_ble_eq_true rfl) (fun x e1 e2 hx => by subst e1; subst e2; exact bX10_payersAhead x hx σ p1)
