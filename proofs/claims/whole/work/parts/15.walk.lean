-- BellRopeModel.here
theorem dX11_here_0 : decode cX11_here 0 = .ok (.aload_n 0, 1) := by decide +kernel
theorem dX11_here_1 : decode cX11_here 1 = .ok (.getfield 132, 3) := by decide +kernel
theorem dX11_here_4 : decode cX11_here 4 = .ok (.aload_n 0, 1) := by decide +kernel
theorem dX11_here_5 : decode cX11_here 5 = .ok (.getfield 128, 3) := by decide +kernel
theorem dX11_here_11 : decode cX11_here 11 = .ok (.aload_n 0, 1) := by decide +kernel
theorem dX11_here_12 : decode cX11_here 12 = .ok (.getfield 37, 3) := by decide +kernel
theorem dX11_here_15 : decode cX11_here 15 = .ok (.aload_n 0, 1) := by decide +kernel
theorem dX11_here_16 : decode cX11_here 16 = .ok (.getfield 132, 3) := by decide +kernel
theorem dX11_here_19 : decode cX11_here 19 = .ok (.iaload, 1) := by decide +kernel
theorem dX11_here_20 : decode cX11_here 20 = .ok (.bipush 32, 2) := by decide +kernel
theorem dX11_here_25 : decode cX11_here 25 = .ok (.aload_n 0, 1) := by decide +kernel
theorem dX11_here_26 : decode cX11_here 26 = .ok (.dup, 1) := by decide +kernel
theorem dX11_here_27 : decode cX11_here 27 = .ok (.getfield 132, 3) := by decide +kernel
theorem dX11_here_30 : decode cX11_here 30 = .ok (.iconst 1, 1) := by decide +kernel
theorem dX11_here_31 : decode cX11_here 31 = .ok (.iadd, 1) := by decide +kernel
theorem dX11_here_32 : decode cX11_here 32 = .ok (.putfield 132, 3) := by decide +kernel
theorem dX11_here_35 : decode cX11_here 35 = .ok (.goto (-35), 3) := by decide +kernel
theorem dX11_here_22 : decode cX11_here 22 = .ok (.if_icmp .ne 16, 3) := by decide +kernel
theorem dX11_here_8 : decode cX11_here 8 = .ok (.if_icmp .ge 30, 3) := by decide +kernel
theorem dX11_here_38 : decode cX11_here 38 = .ok (.aload_n 0, 1) := by decide +kernel
theorem dX11_here_39 : decode cX11_here 39 = .ok (.getfield 132, 3) := by decide +kernel
theorem dX11_here_42 : decode cX11_here 42 = .ok (.aload_n 0, 1) := by decide +kernel
theorem dX11_here_43 : decode cX11_here 43 = .ok (.getfield 128, 3) := by decide +kernel
theorem dX11_here_61 : decode cX11_here 61 = .ok (.iconst (-1), 1) := by decide +kernel
theorem dX11_here_62 : decode cX11_here 62 = .ok (.ireturn, 1) := by decide +kernel
theorem dX11_here_49 : decode cX11_here 49 = .ok (.aload_n 0, 1) := by decide +kernel
theorem dX11_here_50 : decode cX11_here 50 = .ok (.getfield 37, 3) := by decide +kernel
theorem dX11_here_53 : decode cX11_here 53 = .ok (.aload_n 0, 1) := by decide +kernel
theorem dX11_here_54 : decode cX11_here 54 = .ok (.getfield 132, 3) := by decide +kernel
theorem dX11_here_57 : decode cX11_here 57 = .ok (.iaload, 1) := by decide +kernel
theorem dX11_here_58 : decode cX11_here 58 = .ok (.goto 4, 3) := by decide +kernel
theorem dX11_here_46 : decode cX11_here 46 = .ok (.if_icmp .ge 15, 3) := by decide +kernel
theorem lX11_here_L0 (x : bo_X) (hx : bo_OK x cX11_here RX11 1 0 0)  : ∀ (n : Nat) (σ : bo_M), bo_D x 0 [(0, .ref (bo_a x 135))] [] σ (mX11_here_L0 n σ) (fun a => bo_N x 38 [(0, .ref (bo_a x 135))] [] a) := by
  intro n
  induction n with
  | zero => intro σ; exact bo_none
  | succ n ih =>
    intro σ
    rw [mX11_here_L0]
    refine bo_aload_n hx dX11_here_0 rfl 0 rfl ?_
    refine gf_X11_132 hx dX11_here_1 ?_
    refine bo_aload_n hx dX11_here_4 rfl 0 rfl ?_
    refine gf_X11_128 hx dX11_here_5 ?_
    refine bo_icmp_ge hx 38 dX11_here_8 (by decide) ?_ ?_
    · exact bo_arr (fun h => h)
    · refine bo_aload_n hx dX11_here_11 rfl 0 rfl ?_
      refine gf_X11_37 hx dX11_here_12 ?_
      refine bo_aload_n hx dX11_here_15 rfl 0 rfl ?_
      refine gf_X11_132 hx dX11_here_16 ?_
      refine bo_iald hx bo_c_145 dX11_here_19 (fun v1 => ?_)
      refine bo_bipush (v := 32) hx dX11_here_20 (by decide) ?_
      refine bo_icmp_ne hx 38 dX11_here_22 (by decide) ?_ ?_
      · exact bo_arr (fun h => h)
      · refine bo_aload_n hx dX11_here_25 rfl 0 rfl ?_
        refine bo_dup hx dX11_here_26 rfl ?_
        refine gf_X11_132 hx dX11_here_27 ?_
        refine bo_iconst (v := 1) hx dX11_here_30 (by decide) ?_
        refine bo_iadd hx dX11_here_31 ?_
        refine pf_X11_132 hx dX11_here_32 (fun σ2 => ?_)
        refine bo_goto hx 0 dX11_here_35 (by decide) ?_
        exact ih σ2
theorem bX11_here (x : bo_X) (hx : bo_OK x cX11_here RX11 1 0 0) (σ : bo_M) : bo_D x 0 [(0, .ref (bo_a x 135))] [] σ (mX11_here σ) (bo_Rw x cX11_here false) := by
  unfold mX11_here
  refine bo_seq 38 (fun a => [(0, .ref (bo_a x 135))]) (fun a => []) (fun a => a) (lX11_here_L0 x hx bo_fuel σ) (fun a3 => ?_)
  refine bo_aload_n hx dX11_here_38 rfl 0 rfl ?_
  refine gf_X11_132 hx dX11_here_39 ?_
  refine bo_aload_n hx dX11_here_42 rfl 0 rfl ?_
  refine gf_X11_128 hx dX11_here_43 ?_
  refine bo_icmp_ge hx 61 dX11_here_46 (by decide) ?_ ?_
  · refine bo_iconst (v := (-1)) hx dX11_here_61 (by decide) ?_
    exact bo_retw dX11_here_62 (fun h => by cases h)
  · refine bo_aload_n hx dX11_here_49 rfl 0 rfl ?_
    refine gf_X11_37 hx dX11_here_50 ?_
    refine bo_aload_n hx dX11_here_53 rfl 0 rfl ?_
    refine gf_X11_132 hx dX11_here_54 ?_
    refine bo_iald hx bo_c_145 dX11_here_57 (fun v4 => ?_)
    refine bo_goto hx 62 dX11_here_58 (by decide) ?_
    exact bo_retw dX11_here_62 (fun h => by cases h)
theorem kX11_here (l : Launch) (g : bo_G) (hi : bo_inj g) (σ : bo_M) : bo_CW l g yX11_here cX11_here 1 (some .int) 0 0 [.ref (g.2.2 135)] σ false (mX11_here σ) :=
  bo_metW rfl (Or.inl ⟨rfl, rfl⟩) (by decide) rfl hi (Nat.le_of_ble_eq_true rfl) (fun x e1 e2 hx => by subst e1; subst e2; exact bX11_here x hx σ)
-- BellRopeModel.fails
theorem dX11_fails_0 : decode cX11_fails 0 = .ok (.aload_n 0, 1) := by decide +kernel
theorem dX11_fails_1 : decode cX11_fails 1 = .ok (.iload_n 2, 1) := by decide +kernel
theorem dX11_fails_2 : decode cX11_fails 2 = .ok (.putfield 40, 3) := by decide +kernel
theorem dX11_fails_5 : decode cX11_fails 5 = .ok (.iload_n 1, 1) := by decide +kernel
theorem dX11_fails_6 : decode cX11_fails 6 = .ok (.ireturn, 1) := by decide +kernel
theorem bX11_fails (x : bo_X) (hx : bo_OK x cX11_fails RX11 3 0 0) (σ : bo_M) (p1 : Int32) (p2 : Int32) : bo_D x 0 [(0, .ref (bo_a x 135)), (1, .int p1), (2, .int p2)] [] σ (mX11_fails σ p1 p2) (bo_Rw x cX11_fails false) := by
  unfold mX11_fails
  refine bo_aload_n hx dX11_fails_0 rfl 0 rfl ?_
  refine bo_iload_n hx dX11_fails_1 rfl 2 rfl ?_
  refine pf_X11_40 hx dX11_fails_2 (fun σ1 => ?_)
  refine bo_iload_n hx dX11_fails_5 rfl 1 rfl ?_
  exact bo_retw dX11_fails_6 (fun h => by cases h)
theorem kX11_fails (l : Launch) (g : bo_G) (hi : bo_inj g) (σ : bo_M) (p1 : Int32) (p2 : Int32) : bo_CW l g yX11_fails cX11_fails 3 (some .int) 0 0 [.ref (g.2.2 135), .int p1, .int p2] σ false (mX11_fails σ p1 p2) :=
  bo_metW rfl (Or.inl ⟨rfl, rfl⟩) (by decide) rfl hi (Nat.le_of_ble_eq_true rfl) (fun x e1 e2 hx => by subst e1; subst e2; exact bX11_fails x hx σ p1 p2)
-- BellRopeModel.takeNumber
theorem dX11_takeNumber_0 : decode cX11_takeNumber 0 = .ok (.aload_n 0, 1) := by decide +kernel
theorem dX11_takeNumber_1 : decode cX11_takeNumber 1 = .ok (.invokevirtual 135, 3) := by decide +kernel
theorem dX11_takeNumber_4 : decode cX11_takeNumber 4 = .ok (.istore_n 3, 1) := by decide +kernel
theorem dX11_takeNumber_5 : decode cX11_takeNumber 5 = .ok (.iload_n 3, 1) := by decide +kernel
theorem dX11_takeNumber_6 : decode cX11_takeNumber 6 = .ok (.i2l, 1) := by decide +kernel
theorem dX11_takeNumber_7 : decode cX11_takeNumber 7 = .ok (.ldc2_w 139, 3) := by decide +kernel
theorem dX11_takeNumber_10 : decode cX11_takeNumber 10 = .ok (.ldc2_w 141, 3) := by decide +kernel
theorem dX11_takeNumber_13 : decode cX11_takeNumber 13 = .ok (.invokestatic 118, 3) := by decide +kernel
theorem dX11_takeNumber_29 : decode cX11_takeNumber 29 = .ok (.aload_n 0, 1) := by decide +kernel
theorem dX11_takeNumber_30 : decode cX11_takeNumber 30 = .ok (.aload_n 0, 1) := by decide +kernel
theorem dX11_takeNumber_31 : decode cX11_takeNumber 31 = .ok (.getfield 132, 3) := by decide +kernel
theorem dX11_takeNumber_34 : decode cX11_takeNumber 34 = .ok (.putfield 147, 3) := by decide +kernel
theorem dX11_takeNumber_37 : decode cX11_takeNumber 37 = .ok (.aload_n 0, 1) := by decide +kernel
theorem dX11_takeNumber_38 : decode cX11_takeNumber 38 = .ok (.iconst 0, 1) := by decide +kernel
theorem dX11_takeNumber_39 : decode cX11_takeNumber 39 = .ok (.putfield 150, 3) := by decide +kernel
theorem dX11_takeNumber_42 : decode cX11_takeNumber 42 = .ok (.aload_n 0, 1) := by decide +kernel
theorem dX11_takeNumber_43 : decode cX11_takeNumber 43 = .ok (.getfield 132, 3) := by decide +kernel
theorem dX11_takeNumber_46 : decode cX11_takeNumber 46 = .ok (.aload_n 0, 1) := by decide +kernel
theorem dX11_takeNumber_47 : decode cX11_takeNumber 47 = .ok (.getfield 128, 3) := by decide +kernel
theorem dX11_takeNumber_53 : decode cX11_takeNumber 53 = .ok (.aload_n 0, 1) := by decide +kernel
theorem dX11_takeNumber_54 : decode cX11_takeNumber 54 = .ok (.getfield 37, 3) := by decide +kernel
theorem dX11_takeNumber_57 : decode cX11_takeNumber 57 = .ok (.aload_n 0, 1) := by decide +kernel
theorem dX11_takeNumber_58 : decode cX11_takeNumber 58 = .ok (.getfield 132, 3) := by decide +kernel
theorem dX11_takeNumber_61 : decode cX11_takeNumber 61 = .ok (.iaload, 1) := by decide +kernel
theorem dX11_takeNumber_62 : decode cX11_takeNumber 62 = .ok (.i2l, 1) := by decide +kernel
theorem dX11_takeNumber_63 : decode cX11_takeNumber 63 = .ok (.ldc2_w 139, 3) := by decide +kernel
theorem dX11_takeNumber_66 : decode cX11_takeNumber 66 = .ok (.ldc2_w 141, 3) := by decide +kernel
theorem dX11_takeNumber_69 : decode cX11_takeNumber 69 = .ok (.invokestatic 118, 3) := by decide +kernel
theorem dX11_takeNumber_75 : decode cX11_takeNumber 75 = .ok (.aload_n 0, 1) := by decide +kernel
theorem dX11_takeNumber_76 : decode cX11_takeNumber 76 = .ok (.aload_n 0, 1) := by decide +kernel
theorem dX11_takeNumber_77 : decode cX11_takeNumber 77 = .ok (.getfield 150, 3) := by decide +kernel
theorem dX11_takeNumber_80 : decode cX11_takeNumber 80 = .ok (.sipush 10000, 3) := by decide +kernel
theorem dX11_takeNumber_93 : decode cX11_takeNumber 93 = .ok (.bipush 10, 2) := by decide +kernel
theorem dX11_takeNumber_95 : decode cX11_takeNumber 95 = .ok (.aload_n 0, 1) := by decide +kernel
theorem dX11_takeNumber_96 : decode cX11_takeNumber 96 = .ok (.getfield 150, 3) := by decide +kernel
theorem dX11_takeNumber_99 : decode cX11_takeNumber 99 = .ok (.imul, 1) := by decide +kernel
theorem dX11_takeNumber_100 : decode cX11_takeNumber 100 = .ok (.aload_n 0, 1) := by decide +kernel
theorem dX11_takeNumber_101 : decode cX11_takeNumber 101 = .ok (.getfield 37, 3) := by decide +kernel
theorem dX11_takeNumber_104 : decode cX11_takeNumber 104 = .ok (.aload_n 0, 1) := by decide +kernel
theorem dX11_takeNumber_105 : decode cX11_takeNumber 105 = .ok (.getfield 132, 3) := by decide +kernel
theorem dX11_takeNumber_108 : decode cX11_takeNumber 108 = .ok (.iaload, 1) := by decide +kernel
theorem dX11_takeNumber_109 : decode cX11_takeNumber 109 = .ok (.iadd, 1) := by decide +kernel
theorem dX11_takeNumber_110 : decode cX11_takeNumber 110 = .ok (.bipush 48, 2) := by decide +kernel
theorem dX11_takeNumber_112 : decode cX11_takeNumber 112 = .ok (.isub, 1) := by decide +kernel
theorem dX11_takeNumber_86 : decode cX11_takeNumber 86 = .ok (.aload_n 0, 1) := by decide +kernel
theorem dX11_takeNumber_87 : decode cX11_takeNumber 87 = .ok (.getfield 150, 3) := by decide +kernel
theorem dX11_takeNumber_90 : decode cX11_takeNumber 90 = .ok (.goto 23, 3) := by decide +kernel
theorem dX11_takeNumber_83 : decode cX11_takeNumber 83 = .ok (.if_icmp .le 10, 3) := by decide +kernel
theorem dX11_takeNumber_113 : decode cX11_takeNumber 113 = .ok (.putfield 150, 3) := by decide +kernel
theorem dX11_takeNumber_116 : decode cX11_takeNumber 116 = .ok (.aload_n 0, 1) := by decide +kernel
theorem dX11_takeNumber_117 : decode cX11_takeNumber 117 = .ok (.dup, 1) := by decide +kernel
theorem dX11_takeNumber_118 : decode cX11_takeNumber 118 = .ok (.getfield 132, 3) := by decide +kernel
theorem dX11_takeNumber_121 : decode cX11_takeNumber 121 = .ok (.iconst 1, 1) := by decide +kernel
theorem dX11_takeNumber_122 : decode cX11_takeNumber 122 = .ok (.iadd, 1) := by decide +kernel
theorem dX11_takeNumber_123 : decode cX11_takeNumber 123 = .ok (.putfield 132, 3) := by decide +kernel
theorem dX11_takeNumber_126 : decode cX11_takeNumber 126 = .ok (.goto (-84), 3) := by decide +kernel
theorem dX11_takeNumber_72 : decode cX11_takeNumber 72 = .ok (.ifCond .eq 57, 3) := by decide +kernel
theorem dX11_takeNumber_50 : decode cX11_takeNumber 50 = .ok (.if_icmp .ge 79, 3) := by decide +kernel
theorem dX11_takeNumber_129 : decode cX11_takeNumber 129 = .ok (.aload_n 0, 1) := by decide +kernel
theorem dX11_takeNumber_130 : decode cX11_takeNumber 130 = .ok (.getfield 132, 3) := by decide +kernel
theorem dX11_takeNumber_133 : decode cX11_takeNumber 133 = .ok (.aload_n 0, 1) := by decide +kernel
theorem dX11_takeNumber_134 : decode cX11_takeNumber 134 = .ok (.getfield 147, 3) := by decide +kernel
theorem dX11_takeNumber_137 : decode cX11_takeNumber 137 = .ok (.isub, 1) := by decide +kernel
theorem dX11_takeNumber_138 : decode cX11_takeNumber 138 = .ok (.iconst 3, 1) := by decide +kernel
theorem dX11_takeNumber_157 : decode cX11_takeNumber 157 = .ok (.aload_n 0, 1) := by decide +kernel
theorem dX11_takeNumber_158 : decode cX11_takeNumber 158 = .ok (.iconst 2, 1) := by decide +kernel
theorem dX11_takeNumber_159 : decode cX11_takeNumber 159 = .ok (.aload_n 0, 1) := by decide +kernel
theorem dX11_takeNumber_160 : decode cX11_takeNumber 160 = .ok (.getfield 147, 3) := by decide +kernel
theorem dX11_takeNumber_163 : decode cX11_takeNumber 163 = .ok (.invokevirtual 143, 3) := by decide +kernel
theorem dX11_takeNumber_166 : decode cX11_takeNumber 166 = .ok (.goto 4, 3) := by decide +kernel
theorem dX11_takeNumber_170 : decode cX11_takeNumber 170 = .ok (.ireturn, 1) := by decide +kernel
theorem dX11_takeNumber_142 : decode cX11_takeNumber 142 = .ok (.aload_n 0, 1) := by decide +kernel
theorem dX11_takeNumber_143 : decode cX11_takeNumber 143 = .ok (.getfield 150, 3) := by decide +kernel
theorem dX11_takeNumber_146 : decode cX11_takeNumber 146 = .ok (.i2l, 1) := by decide +kernel
theorem dX11_takeNumber_147 : decode cX11_takeNumber 147 = .ok (.iload_n 1, 1) := by decide +kernel
theorem dX11_takeNumber_148 : decode cX11_takeNumber 148 = .ok (.i2l, 1) := by decide +kernel
theorem dX11_takeNumber_149 : decode cX11_takeNumber 149 = .ok (.iload_n 2, 1) := by decide +kernel
theorem dX11_takeNumber_150 : decode cX11_takeNumber 150 = .ok (.i2l, 1) := by decide +kernel
theorem dX11_takeNumber_151 : decode cX11_takeNumber 151 = .ok (.invokestatic 118, 3) := by decide +kernel
theorem dX11_takeNumber_169 : decode cX11_takeNumber 169 = .ok (.iconst 0, 1) := by decide +kernel
theorem dX11_takeNumber_154 : decode cX11_takeNumber 154 = .ok (.ifCond .ne 15, 3) := by decide +kernel
theorem dX11_takeNumber_139 : decode cX11_takeNumber 139 = .ok (.if_icmp .gt 18, 3) := by decide +kernel
theorem dX11_takeNumber_19 : decode cX11_takeNumber 19 = .ok (.aload_n 0, 1) := by decide +kernel
theorem dX11_takeNumber_20 : decode cX11_takeNumber 20 = .ok (.iconst 1, 1) := by decide +kernel
theorem dX11_takeNumber_21 : decode cX11_takeNumber 21 = .ok (.aload_n 0, 1) := by decide +kernel
theorem dX11_takeNumber_22 : decode cX11_takeNumber 22 = .ok (.getfield 132, 3) := by decide +kernel
theorem dX11_takeNumber_25 : decode cX11_takeNumber 25 = .ok (.invokevirtual 143, 3) := by decide +kernel
theorem dX11_takeNumber_28 : decode cX11_takeNumber 28 = .ok (.ireturn, 1) := by decide +kernel
theorem dX11_takeNumber_16 : decode cX11_takeNumber 16 = .ok (.ifCond .ne 13, 3) := by decide +kernel
theorem lX11_takeNumber_L42 (x : bo_X) (hx : bo_OK x cX11_takeNumber RX11 4 1 25) (f1 : Int32) (f2 : Int32) : ∀ (n : Nat) (σ : bo_M), bo_D x 42 [(0, .ref (bo_a x 135)), (1, .int f1), (2, .int f2)] [] σ (mX11_takeNumber_L42 f1 f2 n σ) (fun a => bo_N x 129 [(0, .ref (bo_a x 135)), (1, .int f1), (2, .int f2)] [] a) := by
  intro n
  induction n with
  | zero => intro σ; exact bo_none
  | succ n ih =>
    intro σ
    rw [mX11_takeNumber_L42]
    refine bo_aload_n hx dX11_takeNumber_42 rfl 0 rfl ?_
    refine gf_X11_132 hx dX11_takeNumber_43 ?_
    refine bo_aload_n hx dX11_takeNumber_46 rfl 0 rfl ?_
    refine gf_X11_128 hx dX11_takeNumber_47 ?_
    refine bo_icmp_ge hx 129 dX11_takeNumber_50 (by decide) ?_ ?_
    · exact bo_arr (fun h => h)
    · refine bo_aload_n hx dX11_takeNumber_53 rfl 0 rfl ?_
      refine gf_X11_37 hx dX11_takeNumber_54 ?_
      refine bo_aload_n hx dX11_takeNumber_57 rfl 0 rfl ?_
      refine gf_X11_132 hx dX11_takeNumber_58 ?_
      refine bo_iald hx bo_c_145 dX11_takeNumber_61 (fun v5 => ?_)
      refine bo_i2l hx dX11_takeNumber_62 ?_
      refine bo_ldc2 (v := 48) hx dX11_takeNumber_63 wl_X11_139 ?_
      refine bo_ldc2 (v := 57) hx dX11_takeNumber_66 wl_X11_141 ?_
      refine bo_goR (z := true) hx (fun rr hh => bo_runS (As := [.long (Int32.toInt64 v5), .long 48, .long 57]) (S := []) hx dX11_takeNumber_69 lk_X11_118 ms_X11_in (kX11_in (bo_l x) (bo_g x) hx.inj σ (Int32.toInt64 v5) 48 57 rr hh) ⟨by decide, by decide⟩ rfl rfl (Nat.le_of_ble_eq_true rfl)) (fun v6 hv6 => ?_)
      refine bo_if_eq hx 129 dX11_takeNumber_72 (by decide) ?_ ?_
      · exact bo_arr (fun h => h)
      · refine bo_aload_n hx dX11_takeNumber_75 rfl 0 rfl ?_
        refine bo_aload_n hx dX11_takeNumber_76 rfl 0 rfl ?_
        refine gf_X11_150 hx dX11_takeNumber_77 ?_
        refine bo_sipush (v := 10000) hx dX11_takeNumber_80 (by decide) ?_
        refine bo_seq 113 (fun a => [(0, .ref (bo_a x 135)), (1, .int f1), (2, .int f2)]) (fun a => [.int a, .ref (bo_a x 135)]) (fun a => σ) ?_ (fun a7 => ?_)
        · refine bo_icmp_le hx 93 dX11_takeNumber_83 (by decide) ?_ ?_
          · refine bo_bipush (v := 10) hx dX11_takeNumber_93 (by decide) ?_
            refine bo_aload_n hx dX11_takeNumber_95 rfl 0 rfl ?_
            refine gf_X11_150 hx dX11_takeNumber_96 ?_
            refine bo_imul hx dX11_takeNumber_99 ?_
            refine bo_aload_n hx dX11_takeNumber_100 rfl 0 rfl ?_
            refine gf_X11_37 hx dX11_takeNumber_101 ?_
            refine bo_aload_n hx dX11_takeNumber_104 rfl 0 rfl ?_
            refine gf_X11_132 hx dX11_takeNumber_105 ?_
            refine bo_iald hx bo_c_145 dX11_takeNumber_108 (fun v8 => ?_)
            refine bo_iadd hx dX11_takeNumber_109 ?_
            refine bo_bipush (v := 48) hx dX11_takeNumber_110 (by decide) ?_
            refine bo_isub hx dX11_takeNumber_112 ?_
            exact bo_arr (fun h => h)
          · refine bo_aload_n hx dX11_takeNumber_86 rfl 0 rfl ?_
            refine gf_X11_150 hx dX11_takeNumber_87 ?_
            refine bo_goto hx 113 dX11_takeNumber_90 (by decide) ?_
            exact bo_arr (fun h => h)
        · refine pf_X11_150 hx dX11_takeNumber_113 (fun σ9 => ?_)
          refine bo_aload_n hx dX11_takeNumber_116 rfl 0 rfl ?_
          refine bo_dup hx dX11_takeNumber_117 rfl ?_
          refine gf_X11_132 hx dX11_takeNumber_118 ?_
          refine bo_iconst (v := 1) hx dX11_takeNumber_121 (by decide) ?_
          refine bo_iadd hx dX11_takeNumber_122 ?_
          refine pf_X11_132 hx dX11_takeNumber_123 (fun σ10 => ?_)
          refine bo_goto hx 42 dX11_takeNumber_126 (by decide) ?_
          exact ih σ10
theorem bX11_takeNumber (x : bo_X) (hx : bo_OK x cX11_takeNumber RX11 4 1 25) (σ : bo_M) (p1 : Int32) (p2 : Int32) : bo_D x 0 [(0, .ref (bo_a x 135)), (1, .int p1), (2, .int p2)] [] σ (mX11_takeNumber σ p1 p2) (bo_Rw x cX11_takeNumber false) := by
  unfold mX11_takeNumber
  refine bo_aload_n hx dX11_takeNumber_0 rfl 0 rfl ?_
  refine bo_goW (z := false) hx (fun rr hh => bo_runV (As := []) (S := []) hx dX11_takeNumber_1 lk_X11_135 mi_X11_here bo_o_135 rfl rfl (kX11_here (bo_l x) (bo_g x) hx.inj σ rr hh) ⟨by decide, by decide⟩ rfl rfl (Nat.le_of_ble_eq_true rfl)) (fun a1 ha1 => ?_)
  refine bo_istore_n (L' := [(3, .int a1.1), (0, .ref (bo_a x 135)), (1, .int p1), (2, .int p2)]) hx dX11_takeNumber_4 rfl (by decide) rfl ?_
  refine bo_iload_n hx dX11_takeNumber_5 rfl 0 rfl ?_
  refine bo_i2l hx dX11_takeNumber_6 ?_
  refine bo_ldc2 (v := 48) hx dX11_takeNumber_7 wl_X11_139 ?_
  refine bo_ldc2 (v := 57) hx dX11_takeNumber_10 wl_X11_141 ?_
  refine bo_goR (z := true) hx (fun rr hh => bo_runS (As := [.long (Int32.toInt64 a1.1), .long 48, .long 57]) (S := []) hx dX11_takeNumber_13 lk_X11_118 ms_X11_in (kX11_in (bo_l x) (bo_g x) hx.inj a1.2 (Int32.toInt64 a1.1) 48 57 rr hh) ⟨by decide, by decide⟩ rfl rfl (Nat.le_of_ble_eq_true rfl)) (fun v2 hv2 => ?_)
  refine bo_if_ne hx 29 dX11_takeNumber_16 (by decide) ?_ ?_
  · refine bo_aload_n hx dX11_takeNumber_29 rfl 1 rfl ?_
    refine bo_aload_n hx dX11_takeNumber_30 rfl 1 rfl ?_
    refine gf_X11_132 hx dX11_takeNumber_31 ?_
    refine pf_X11_147 hx dX11_takeNumber_34 (fun σ3 => ?_)
    refine bo_aload_n hx dX11_takeNumber_37 rfl 1 rfl ?_
    refine bo_iconst (v := 0) hx dX11_takeNumber_38 (by decide) ?_
    refine pf_X11_150 hx dX11_takeNumber_39 (fun σ4 => ?_)
    refine bo_sub (L' := [(0, .ref (bo_a x 135)), (1, .int p1), (2, .int p2)]) [1, 2, 3] rfl ?_
    refine bo_seq 129 (fun a => [(0, .ref (bo_a x 135)), (1, .int p1), (2, .int p2)]) (fun a => []) (fun a => a) (lX11_takeNumber_L42 x hx p1 p2 bo_fuel σ4) (fun a11 => ?_)
    refine bo_aload_n hx dX11_takeNumber_129 rfl 0 rfl ?_
    refine gf_X11_132 hx dX11_takeNumber_130 ?_
    refine bo_aload_n hx dX11_takeNumber_133 rfl 0 rfl ?_
    refine gf_X11_147 hx dX11_takeNumber_134 ?_
    refine bo_isub hx dX11_takeNumber_137 ?_
    refine bo_iconst (v := 3) hx dX11_takeNumber_138 (by decide) ?_
    refine bo_icmp_gt hx 157 dX11_takeNumber_139 (by decide) ?_ ?_
    · refine bo_aload_n hx dX11_takeNumber_157 rfl 0 rfl ?_
      refine bo_iconst (v := 2) hx dX11_takeNumber_158 (by decide) ?_
      refine bo_aload_n hx dX11_takeNumber_159 rfl 0 rfl ?_
      refine gf_X11_147 hx dX11_takeNumber_160 ?_
      refine bo_goW (z := false) hx (fun rr hh => bo_runV (As := [.int 2, .int (a11 135 23)]) (S := []) hx dX11_takeNumber_163 lk_X11_143 mi_X11_fails bo_o_135 rfl rfl (kX11_fails (bo_l x) (bo_g x) hx.inj a11 2 (a11 135 23) rr hh) ⟨by decide, by decide⟩ rfl rfl (Nat.le_of_ble_eq_true rfl)) (fun a12 ha12 => ?_)
      refine bo_goto hx 170 dX11_takeNumber_166 (by decide) ?_
      exact bo_retw dX11_takeNumber_170 (fun h => by cases h)
    · refine bo_aload_n hx dX11_takeNumber_142 rfl 0 rfl ?_
      refine gf_X11_150 hx dX11_takeNumber_143 ?_
      refine bo_i2l hx dX11_takeNumber_146 ?_
      refine bo_iload_n hx dX11_takeNumber_147 rfl 1 rfl ?_
      refine bo_i2l hx dX11_takeNumber_148 ?_
      refine bo_iload_n hx dX11_takeNumber_149 rfl 2 rfl ?_
      refine bo_i2l hx dX11_takeNumber_150 ?_
      refine bo_goR (z := true) hx (fun rr hh => bo_runS (As := [.long (Int32.toInt64 (a11 135 22)), .long (Int32.toInt64 p1), .long (Int32.toInt64 p2)]) (S := []) hx dX11_takeNumber_151 lk_X11_118 ms_X11_in (kX11_in (bo_l x) (bo_g x) hx.inj a11 (Int32.toInt64 (a11 135 22)) (Int32.toInt64 p1) (Int32.toInt64 p2) rr hh) ⟨by decide, by decide⟩ rfl rfl (Nat.le_of_ble_eq_true rfl)) (fun v13 hv13 => ?_)
      refine bo_if_ne hx 169 dX11_takeNumber_154 (by decide) ?_ ?_
      · refine bo_iconst (v := 0) hx dX11_takeNumber_169 (by decide) ?_
        exact bo_retw dX11_takeNumber_170 (fun h => by cases h)
      · refine bo_aload_n hx dX11_takeNumber_157 rfl 0 rfl ?_
        refine bo_iconst (v := 2) hx dX11_takeNumber_158 (by decide) ?_
        refine bo_aload_n hx dX11_takeNumber_159 rfl 0 rfl ?_
        refine gf_X11_147 hx dX11_takeNumber_160 ?_
        refine bo_goW (z := false) hx (fun rr hh => bo_runV (As := [.int 2, .int (a11 135 23)]) (S := []) hx dX11_takeNumber_163 lk_X11_143 mi_X11_fails bo_o_135 rfl rfl (kX11_fails (bo_l x) (bo_g x) hx.inj a11 2 (a11 135 23) rr hh) ⟨by decide, by decide⟩ rfl rfl (Nat.le_of_ble_eq_true rfl)) (fun a14 ha14 => ?_)
        refine bo_goto hx 170 dX11_takeNumber_166 (by decide) ?_
        exact bo_retw dX11_takeNumber_170 (fun h => by cases h)
  · refine bo_aload_n hx dX11_takeNumber_19 rfl 1 rfl ?_
    refine bo_iconst (v := 1) hx dX11_takeNumber_20 (by decide) ?_
    refine bo_aload_n hx dX11_takeNumber_21 rfl 1 rfl ?_
    refine gf_X11_132 hx dX11_takeNumber_22 ?_
    refine bo_goW (z := false) hx (fun rr hh => bo_runV (As := [.int 1, .int (a1.2 135 21)]) (S := []) hx dX11_takeNumber_25 lk_X11_143 mi_X11_fails bo_o_135 rfl rfl (kX11_fails (bo_l x) (bo_g x) hx.inj a1.2 1 (a1.2 135 21) rr hh) ⟨by decide, by decide⟩ rfl rfl (Nat.le_of_ble_eq_true rfl)) (fun a15 ha15 => ?_)
    exact bo_retw dX11_takeNumber_28 (fun h => by cases h)
theorem kX11_takeNumber (l : Launch) (g : bo_G) (hi : bo_inj g) (σ : bo_M) (p1 : Int32) (p2 : Int32) : bo_CW l g yX11_takeNumber cX11_takeNumber 4 (some .int) 1 25 [.ref (g.2.2 135), .int p1, .int p2] σ false (mX11_takeNumber σ p1 p2) :=
  bo_metW rfl (Or.inl ⟨rfl, rfl⟩) (by decide) rfl hi (Nat.le_of_ble_eq_true rfl) (fun x e1 e2 hx => by subst e1; subst e2; exact bX11_takeNumber x hx σ p1 p2)
-- BellRopeModel.into
theorem dX11_into_0 : decode cX11_into 0 = .ok (.aload_n 0, 1) := by decide +kernel
theorem dX11_into_1 : decode cX11_into 1 = .ok (.iload_n 3, 1) := by decide +kernel
theorem dX11_into_2 : decode cX11_into 2 = .ok (.iload 4, 2) := by decide +kernel
theorem dX11_into_4 : decode cX11_into 4 = .ok (.invokevirtual 153, 3) := by decide +kernel
theorem dX11_into_7 : decode cX11_into 7 = .ok (.istore 5, 2) := by decide +kernel
theorem dX11_into_9 : decode cX11_into 9 = .ok (.aload_n 1, 1) := by decide +kernel
theorem dX11_into_10 : decode cX11_into 10 = .ok (.iload_n 2, 1) := by decide +kernel
theorem dX11_into_11 : decode cX11_into 11 = .ok (.aload_n 0, 1) := by decide +kernel
theorem dX11_into_12 : decode cX11_into 12 = .ok (.getfield 150, 3) := by decide +kernel
theorem dX11_into_15 : decode cX11_into 15 = .ok (.iastore, 1) := by decide +kernel
theorem dX11_into_16 : decode cX11_into 16 = .ok (.iload 5, 2) := by decide +kernel
theorem dX11_into_18 : decode cX11_into 18 = .ok (.ireturn, 1) := by decide +kernel
theorem bX11_into (x : bo_X) (hx : bo_OK x cX11_into RX11 6 2 48) (σ : bo_M) (n1 r1 : Nat) (p2 : Int32) (p3 : Int32) (p4 : Int32) (hr1 : bo_isA r1 n1) : bo_D x 0 [(0, .ref (bo_a x 135)), (1, .ref (bo_a x r1)), (2, .int p2), (3, .int p3), (4, .int p4)] [] σ (mX11_into σ n1 r1 p2 p3 p4) (bo_Rw x cX11_into false) := by
  unfold mX11_into
  refine bo_aload_n hx dX11_into_0 rfl 0 rfl ?_
  refine bo_iload_n hx dX11_into_1 rfl 3 rfl ?_
  refine bo_iload hx dX11_into_2 4 rfl ?_
  refine bo_goW (z := false) hx (fun rr hh => bo_runV (As := [.int p3, .int p4]) (S := []) hx dX11_into_4 lk_X11_153 mi_X11_takeNumber bo_o_135 rfl rfl (kX11_takeNumber (bo_l x) (bo_g x) hx.inj σ p3 p4 rr hh) ⟨by decide, by decide⟩ rfl rfl (Nat.le_of_ble_eq_true rfl)) (fun a1 ha1 => ?_)
  refine bo_istore (L' := [(5, .int a1.1), (0, .ref (bo_a x 135)), (1, .ref (bo_a x r1)), (2, .int p2), (3, .int p3), (4, .int p4)]) hx dX11_into_7 (by decide) rfl ?_
  refine bo_aload_n hx dX11_into_9 rfl 2 rfl ?_
  refine bo_iload_n hx dX11_into_10 rfl 3 rfl ?_
  refine bo_aload_n hx dX11_into_11 rfl 1 rfl ?_
  refine gf_X11_150 hx dX11_into_12 ?_
  refine bo_iast hx hr1 dX11_into_15 (fun σ2 => ?_)
  refine bo_iload hx dX11_into_16 0 rfl ?_
  exact bo_retw dX11_into_18 (fun h => by cases h)
theorem kX11_into (l : Launch) (g : bo_G) (hi : bo_inj g) (σ : bo_M) (n1 r1 : Nat) (p2 : Int32) (p3 : Int32) (p4 : Int32) (hr1 : bo_isA r1 n1) : bo_CW l g yX11_into cX11_into 6 (some .int) 2 48 [.ref (g.2.2 135), .ref (g.2.2 r1), .int p2, .int p3, .int p4] σ false (mX11_into σ n1 r1 p2 p3 p4) :=
  bo_metW rfl (Or.inl ⟨rfl, rfl⟩) (by decide) rfl hi (Nat.le_of_ble_eq_true rfl) (fun x e1 e2 hx => by subst e1; subst e2; exact bX11_into x hx σ n1 r1 p2 p3 p4 hr1)
-- BellRopeModel.takeLaw
theorem dX11_takeLaw_0 : decode cX11_takeLaw 0 = .ok (.aload_n 0, 1) := by decide +kernel
theorem dX11_takeLaw_1 : decode cX11_takeLaw 1 = .ok (.iconst 1, 1) := by decide +kernel
theorem dX11_takeLaw_2 : decode cX11_takeLaw 2 = .ok (.putfield 156, 3) := by decide +kernel
theorem dX11_takeLaw_5 : decode cX11_takeLaw 5 = .ok (.aload_n 0, 1) := by decide +kernel
theorem dX11_takeLaw_6 : decode cX11_takeLaw 6 = .ok (.aload_n 0, 1) := by decide +kernel
theorem dX11_takeLaw_7 : decode cX11_takeLaw 7 = .ok (.getfield 44, 3) := by decide +kernel
theorem dX11_takeLaw_10 : decode cX11_takeLaw 10 = .ok (.iconst 0, 1) := by decide +kernel
theorem dX11_takeLaw_11 : decode cX11_takeLaw 11 = .ok (.iconst 0, 1) := by decide +kernel
theorem dX11_takeLaw_12 : decode cX11_takeLaw 12 = .ok (.iconst 1, 1) := by decide +kernel
theorem dX11_takeLaw_13 : decode cX11_takeLaw 13 = .ok (.invokevirtual 159, 3) := by decide +kernel
theorem dX11_takeLaw_16 : decode cX11_takeLaw 16 = .ok (.istore_n 1, 1) := by decide +kernel
theorem dX11_takeLaw_17 : decode cX11_takeLaw 17 = .ok (.iload_n 1, 1) := by decide +kernel
theorem dX11_takeLaw_25 : decode cX11_takeLaw 25 = .ok (.aload_n 0, 1) := by decide +kernel
theorem dX11_takeLaw_26 : decode cX11_takeLaw 26 = .ok (.aload_n 0, 1) := by decide +kernel
theorem dX11_takeLaw_27 : decode cX11_takeLaw 27 = .ok (.getfield 44, 3) := by decide +kernel
theorem dX11_takeLaw_30 : decode cX11_takeLaw 30 = .ok (.iconst 1, 1) := by decide +kernel
theorem dX11_takeLaw_31 : decode cX11_takeLaw 31 = .ok (.iconst 0, 1) := by decide +kernel
theorem dX11_takeLaw_32 : decode cX11_takeLaw 32 = .ok (.bipush 9, 2) := by decide +kernel
theorem dX11_takeLaw_34 : decode cX11_takeLaw 34 = .ok (.invokevirtual 159, 3) := by decide +kernel
theorem dX11_takeLaw_21 : decode cX11_takeLaw 21 = .ok (.iload_n 1, 1) := by decide +kernel
theorem dX11_takeLaw_22 : decode cX11_takeLaw 22 = .ok (.goto 15, 3) := by decide +kernel
theorem dX11_takeLaw_18 : decode cX11_takeLaw 18 = .ok (.ifCond .le 7, 3) := by decide +kernel
theorem dX11_takeLaw_37 : decode cX11_takeLaw 37 = .ok (.istore_n 1, 1) := by decide +kernel
theorem dX11_takeLaw_38 : decode cX11_takeLaw 38 = .ok (.iload_n 1, 1) := by decide +kernel
theorem dX11_takeLaw_46 : decode cX11_takeLaw 46 = .ok (.aload_n 0, 1) := by decide +kernel
theorem dX11_takeLaw_47 : decode cX11_takeLaw 47 = .ok (.aload_n 0, 1) := by decide +kernel
theorem dX11_takeLaw_48 : decode cX11_takeLaw 48 = .ok (.getfield 44, 3) := by decide +kernel
theorem dX11_takeLaw_51 : decode cX11_takeLaw 51 = .ok (.iconst 2, 1) := by decide +kernel
theorem dX11_takeLaw_52 : decode cX11_takeLaw 52 = .ok (.iconst 0, 1) := by decide +kernel
theorem dX11_takeLaw_53 : decode cX11_takeLaw 53 = .ok (.bipush 127, 2) := by decide +kernel
theorem dX11_takeLaw_55 : decode cX11_takeLaw 55 = .ok (.invokevirtual 159, 3) := by decide +kernel
theorem dX11_takeLaw_58 : decode cX11_takeLaw 58 = .ok (.ireturn, 1) := by decide +kernel
theorem dX11_takeLaw_42 : decode cX11_takeLaw 42 = .ok (.iload_n 1, 1) := by decide +kernel
theorem dX11_takeLaw_43 : decode cX11_takeLaw 43 = .ok (.goto 15, 3) := by decide +kernel
theorem dX11_takeLaw_39 : decode cX11_takeLaw 39 = .ok (.ifCond .le 7, 3) := by decide +kernel
theorem bX11_takeLaw (x : bo_X) (hx : bo_OK x cX11_takeLaw RX11 2 3 73) (σ : bo_M) : bo_D x 0 [(0, .ref (bo_a x 135))] [] σ (mX11_takeLaw σ) (bo_Rw x cX11_takeLaw false) := by
  unfold mX11_takeLaw
  refine bo_aload_n hx dX11_takeLaw_0 rfl 0 rfl ?_
  refine bo_iconst (v := 1) hx dX11_takeLaw_1 (by decide) ?_
  refine pf_X11_156 hx bo_b_1 dX11_takeLaw_2 (fun σ1 => ?_)
  refine bo_aload_n hx dX11_takeLaw_5 rfl 0 rfl ?_
  refine bo_aload_n hx dX11_takeLaw_6 rfl 0 rfl ?_
  refine gf_X11_44 hx dX11_takeLaw_7 ?_
  refine bo_iconst (v := 0) hx dX11_takeLaw_10 (by decide) ?_
  refine bo_iconst (v := 0) hx dX11_takeLaw_11 (by decide) ?_
  refine bo_iconst (v := 1) hx dX11_takeLaw_12 (by decide) ?_
  refine bo_goW (z := false) hx (fun rr hh => bo_runV (As := [.ref (bo_a x 146), .int 0, .int 0, .int 1]) (S := []) hx dX11_takeLaw_13 lk_X11_159 mi_X11_into bo_o_135 rfl rfl (kX11_into (bo_l x) (bo_g x) hx.inj σ1 3 146 0 0 1 bo_c_146 rr hh) ⟨by decide, by decide⟩ rfl rfl (Nat.le_of_ble_eq_true rfl)) (fun a2 ha2 => ?_)
  refine bo_istore_n (L' := [(1, .int a2.1), (0, .ref (bo_a x 135))]) hx dX11_takeLaw_16 rfl (by decide) rfl ?_
  refine bo_iload_n hx dX11_takeLaw_17 rfl 0 rfl ?_
  refine bo_seq 37 (fun a => [(0, .ref (bo_a x 135))]) (fun a => [.int a.1]) (fun a => a.2) ?_ (fun a3 => ?_)
  · refine bo_if_le hx 25 dX11_takeLaw_18 (by decide) ?_ ?_
    · refine bo_aload_n hx dX11_takeLaw_25 rfl 1 rfl ?_
      refine bo_aload_n hx dX11_takeLaw_26 rfl 1 rfl ?_
      refine gf_X11_44 hx dX11_takeLaw_27 ?_
      refine bo_iconst (v := 1) hx dX11_takeLaw_30 (by decide) ?_
      refine bo_iconst (v := 0) hx dX11_takeLaw_31 (by decide) ?_
      refine bo_bipush (v := 9) hx dX11_takeLaw_32 (by decide) ?_
      refine bo_goW (z := false) hx (fun rr hh => bo_runV (As := [.ref (bo_a x 146), .int 1, .int 0, .int 9]) (S := []) hx dX11_takeLaw_34 lk_X11_159 mi_X11_into bo_o_135 rfl rfl (kX11_into (bo_l x) (bo_g x) hx.inj a2.2 3 146 1 0 9 bo_c_146 rr hh) ⟨by decide, by decide⟩ rfl rfl (Nat.le_of_ble_eq_true rfl)) (fun a4 ha4 => ?_)
      refine bo_sub (L' := [(0, .ref (bo_a x 135))]) [1] rfl ?_
      exact bo_arr (fun h => h)
    · refine bo_iload_n hx dX11_takeLaw_21 rfl 0 rfl ?_
      refine bo_goto hx 37 dX11_takeLaw_22 (by decide) ?_
      refine bo_sub (L' := [(0, .ref (bo_a x 135))]) [1] rfl ?_
      exact bo_arr (fun h => h)
  · refine bo_istore_n (L' := [(1, .int a3.1), (0, .ref (bo_a x 135))]) hx dX11_takeLaw_37 rfl (by decide) rfl ?_
    refine bo_iload_n hx dX11_takeLaw_38 rfl 0 rfl ?_
    refine bo_if_le hx 46 dX11_takeLaw_39 (by decide) ?_ ?_
    · refine bo_aload_n hx dX11_takeLaw_46 rfl 1 rfl ?_
      refine bo_aload_n hx dX11_takeLaw_47 rfl 1 rfl ?_
      refine gf_X11_44 hx dX11_takeLaw_48 ?_
      refine bo_iconst (v := 2) hx dX11_takeLaw_51 (by decide) ?_
      refine bo_iconst (v := 0) hx dX11_takeLaw_52 (by decide) ?_
      refine bo_bipush (v := 127) hx dX11_takeLaw_53 (by decide) ?_
      refine bo_goW (z := false) hx (fun rr hh => bo_runV (As := [.ref (bo_a x 146), .int 2, .int 0, .int 127]) (S := []) hx dX11_takeLaw_55 lk_X11_159 mi_X11_into bo_o_135 rfl rfl (kX11_into (bo_l x) (bo_g x) hx.inj a3.2 3 146 2 0 127 bo_c_146 rr hh) ⟨by decide, by decide⟩ rfl rfl (Nat.le_of_ble_eq_true rfl)) (fun a5 ha5 => ?_)
      exact bo_retw dX11_takeLaw_58 (fun h => by cases h)
    · refine bo_iload_n hx dX11_takeLaw_42 rfl 0 rfl ?_
      refine bo_goto hx 58 dX11_takeLaw_43 (by decide) ?_
      exact bo_retw dX11_takeLaw_58 (fun h => by cases h)
theorem kX11_takeLaw (l : Launch) (g : bo_G) (hi : bo_inj g) (σ : bo_M) : bo_CW l g yX11_takeLaw cX11_takeLaw 2 (some .int) 3 73 [.ref (g.2.2 135)] σ false (mX11_takeLaw σ) :=
  bo_metW rfl (Or.inl ⟨rfl, rfl⟩) (by decide) rfl hi (Nat.le_of_ble_eq_true rfl) (fun x e1 e2 hx => by subst e1; subst e2; exact bX11_takeLaw x hx σ)
-- BellRopeModel.takeDrinker
theorem dX11_takeDrinker_0 : decode cX11_takeDrinker 0 = .ok (.aload_n 0, 1) := by decide +kernel
theorem dX11_takeDrinker_1 : decode cX11_takeDrinker 1 = .ok (.getfield 163, 3) := by decide +kernel
theorem dX11_takeDrinker_4 : decode cX11_takeDrinker 4 = .ok (.istore_n 1, 1) := by decide +kernel
theorem dX11_takeDrinker_5 : decode cX11_takeDrinker 5 = .ok (.aload_n 0, 1) := by decide +kernel
theorem dX11_takeDrinker_6 : decode cX11_takeDrinker 6 = .ok (.dup, 1) := by decide +kernel
theorem dX11_takeDrinker_7 : decode cX11_takeDrinker 7 = .ok (.getfield 163, 3) := by decide +kernel
theorem dX11_takeDrinker_10 : decode cX11_takeDrinker 10 = .ok (.iconst 1, 1) := by decide +kernel
theorem dX11_takeDrinker_11 : decode cX11_takeDrinker 11 = .ok (.iadd, 1) := by decide +kernel
theorem dX11_takeDrinker_12 : decode cX11_takeDrinker 12 = .ok (.putfield 163, 3) := by decide +kernel
theorem dX11_takeDrinker_15 : decode cX11_takeDrinker 15 = .ok (.aload_n 0, 1) := by decide +kernel
theorem dX11_takeDrinker_16 : decode cX11_takeDrinker 16 = .ok (.aload_n 0, 1) := by decide +kernel
theorem dX11_takeDrinker_17 : decode cX11_takeDrinker 17 = .ok (.getfield 47, 3) := by decide +kernel
theorem dX11_takeDrinker_20 : decode cX11_takeDrinker 20 = .ok (.iload_n 1, 1) := by decide +kernel
theorem dX11_takeDrinker_21 : decode cX11_takeDrinker 21 = .ok (.iconst 1, 1) := by decide +kernel
theorem dX11_takeDrinker_22 : decode cX11_takeDrinker 22 = .ok (.bipush 40, 2) := by decide +kernel
theorem dX11_takeDrinker_24 : decode cX11_takeDrinker 24 = .ok (.invokevirtual 159, 3) := by decide +kernel
theorem dX11_takeDrinker_27 : decode cX11_takeDrinker 27 = .ok (.istore_n 2, 1) := by decide +kernel
theorem dX11_takeDrinker_28 : decode cX11_takeDrinker 28 = .ok (.iload_n 2, 1) := by decide +kernel
theorem dX11_takeDrinker_36 : decode cX11_takeDrinker 36 = .ok (.aload_n 0, 1) := by decide +kernel
theorem dX11_takeDrinker_37 : decode cX11_takeDrinker 37 = .ok (.aload_n 0, 1) := by decide +kernel
theorem dX11_takeDrinker_38 : decode cX11_takeDrinker 38 = .ok (.getfield 50, 3) := by decide +kernel
theorem dX11_takeDrinker_41 : decode cX11_takeDrinker 41 = .ok (.iload_n 1, 1) := by decide +kernel
theorem dX11_takeDrinker_42 : decode cX11_takeDrinker 42 = .ok (.iconst 1, 1) := by decide +kernel
theorem dX11_takeDrinker_43 : decode cX11_takeDrinker 43 = .ok (.bipush 20, 2) := by decide +kernel
theorem dX11_takeDrinker_45 : decode cX11_takeDrinker 45 = .ok (.invokevirtual 159, 3) := by decide +kernel
theorem dX11_takeDrinker_32 : decode cX11_takeDrinker 32 = .ok (.iload_n 2, 1) := by decide +kernel
theorem dX11_takeDrinker_33 : decode cX11_takeDrinker 33 = .ok (.goto 15, 3) := by decide +kernel
theorem dX11_takeDrinker_29 : decode cX11_takeDrinker 29 = .ok (.ifCond .le 7, 3) := by decide +kernel
theorem dX11_takeDrinker_48 : decode cX11_takeDrinker 48 = .ok (.istore_n 2, 1) := by decide +kernel
theorem dX11_takeDrinker_49 : decode cX11_takeDrinker 49 = .ok (.iload_n 2, 1) := by decide +kernel
theorem dX11_takeDrinker_57 : decode cX11_takeDrinker 57 = .ok (.aload_n 0, 1) := by decide +kernel
theorem dX11_takeDrinker_58 : decode cX11_takeDrinker 58 = .ok (.aload_n 0, 1) := by decide +kernel
theorem dX11_takeDrinker_59 : decode cX11_takeDrinker 59 = .ok (.getfield 53, 3) := by decide +kernel
theorem dX11_takeDrinker_62 : decode cX11_takeDrinker 62 = .ok (.iload_n 1, 1) := by decide +kernel
theorem dX11_takeDrinker_63 : decode cX11_takeDrinker 63 = .ok (.iconst 0, 1) := by decide +kernel
theorem dX11_takeDrinker_64 : decode cX11_takeDrinker 64 = .ok (.bipush 100, 2) := by decide +kernel
theorem dX11_takeDrinker_66 : decode cX11_takeDrinker 66 = .ok (.invokevirtual 159, 3) := by decide +kernel
theorem dX11_takeDrinker_69 : decode cX11_takeDrinker 69 = .ok (.ireturn, 1) := by decide +kernel
theorem dX11_takeDrinker_53 : decode cX11_takeDrinker 53 = .ok (.iload_n 2, 1) := by decide +kernel
theorem dX11_takeDrinker_54 : decode cX11_takeDrinker 54 = .ok (.goto 15, 3) := by decide +kernel
theorem dX11_takeDrinker_50 : decode cX11_takeDrinker 50 = .ok (.ifCond .le 7, 3) := by decide +kernel
theorem bX11_takeDrinker (x : bo_X) (hx : bo_OK x cX11_takeDrinker RX11 3 3 73) (σ : bo_M) : bo_D x 0 [(0, .ref (bo_a x 135))] [] σ (mX11_takeDrinker σ) (bo_Rw x cX11_takeDrinker false) := by
  unfold mX11_takeDrinker
  refine bo_aload_n hx dX11_takeDrinker_0 rfl 0 rfl ?_
  refine gf_X11_163 hx dX11_takeDrinker_1 ?_
  refine bo_istore_n (L' := [(1, .int (σ 135 26)), (0, .ref (bo_a x 135))]) hx dX11_takeDrinker_4 rfl (by decide) rfl ?_
  refine bo_aload_n hx dX11_takeDrinker_5 rfl 1 rfl ?_
  refine bo_dup hx dX11_takeDrinker_6 rfl ?_
  refine gf_X11_163 hx dX11_takeDrinker_7 ?_
  refine bo_iconst (v := 1) hx dX11_takeDrinker_10 (by decide) ?_
  refine bo_iadd hx dX11_takeDrinker_11 ?_
  refine pf_X11_163 hx dX11_takeDrinker_12 (fun σ1 => ?_)
  refine bo_aload_n hx dX11_takeDrinker_15 rfl 1 rfl ?_
  refine bo_aload_n hx dX11_takeDrinker_16 rfl 1 rfl ?_
  refine gf_X11_47 hx dX11_takeDrinker_17 ?_
  refine bo_iload_n hx dX11_takeDrinker_20 rfl 0 rfl ?_
  refine bo_iconst (v := 1) hx dX11_takeDrinker_21 (by decide) ?_
  refine bo_bipush (v := 40) hx dX11_takeDrinker_22 (by decide) ?_
  refine bo_goW (z := false) hx (fun rr hh => bo_runV (As := [.ref (bo_a x 147), .int (σ 135 26), .int 1, .int 40]) (S := []) hx dX11_takeDrinker_24 lk_X11_159 mi_X11_into bo_o_135 rfl rfl (kX11_into (bo_l x) (bo_g x) hx.inj σ1 7 147 (σ 135 26) 1 40 bo_c_147 rr hh) ⟨by decide, by decide⟩ rfl rfl (Nat.le_of_ble_eq_true rfl)) (fun a2 ha2 => ?_)
  refine bo_istore_n (L' := [(2, .int a2.1), (1, .int (σ 135 26)), (0, .ref (bo_a x 135))]) hx dX11_takeDrinker_27 rfl (by decide) rfl ?_
  refine bo_iload_n hx dX11_takeDrinker_28 rfl 0 rfl ?_
  refine bo_seq 48 (fun a => [(0, .ref (bo_a x 135)), (1, .int (σ 135 26))]) (fun a => [.int a.1]) (fun a => a.2) ?_ (fun a3 => ?_)
  · refine bo_if_le hx 36 dX11_takeDrinker_29 (by decide) ?_ ?_
    · refine bo_aload_n hx dX11_takeDrinker_36 rfl 2 rfl ?_
      refine bo_aload_n hx dX11_takeDrinker_37 rfl 2 rfl ?_
      refine gf_X11_50 hx dX11_takeDrinker_38 ?_
      refine bo_iload_n hx dX11_takeDrinker_41 rfl 1 rfl ?_
      refine bo_iconst (v := 1) hx dX11_takeDrinker_42 (by decide) ?_
      refine bo_bipush (v := 20) hx dX11_takeDrinker_43 (by decide) ?_
      refine bo_goW (z := false) hx (fun rr hh => bo_runV (As := [.ref (bo_a x 148), .int (σ 135 26), .int 1, .int 20]) (S := []) hx dX11_takeDrinker_45 lk_X11_159 mi_X11_into bo_o_135 rfl rfl (kX11_into (bo_l x) (bo_g x) hx.inj a2.2 7 148 (σ 135 26) 1 20 bo_c_148 rr hh) ⟨by decide, by decide⟩ rfl rfl (Nat.le_of_ble_eq_true rfl)) (fun a4 ha4 => ?_)
      refine bo_sub (L' := [(0, .ref (bo_a x 135)), (1, .int (σ 135 26))]) [2, 1] rfl ?_
      exact bo_arr (fun h => h)
    · refine bo_iload_n hx dX11_takeDrinker_32 rfl 0 rfl ?_
      refine bo_goto hx 48 dX11_takeDrinker_33 (by decide) ?_
      refine bo_sub (L' := [(0, .ref (bo_a x 135)), (1, .int (σ 135 26))]) [2, 1] rfl ?_
      exact bo_arr (fun h => h)
  · refine bo_istore_n (L' := [(2, .int a3.1), (0, .ref (bo_a x 135)), (1, .int (σ 135 26))]) hx dX11_takeDrinker_48 rfl (by decide) rfl ?_
    refine bo_iload_n hx dX11_takeDrinker_49 rfl 0 rfl ?_
    refine bo_if_le hx 57 dX11_takeDrinker_50 (by decide) ?_ ?_
    · refine bo_aload_n hx dX11_takeDrinker_57 rfl 1 rfl ?_
      refine bo_aload_n hx dX11_takeDrinker_58 rfl 1 rfl ?_
      refine gf_X11_53 hx dX11_takeDrinker_59 ?_
      refine bo_iload_n hx dX11_takeDrinker_62 rfl 2 rfl ?_
      refine bo_iconst (v := 0) hx dX11_takeDrinker_63 (by decide) ?_
      refine bo_bipush (v := 100) hx dX11_takeDrinker_64 (by decide) ?_
      refine bo_goW (z := false) hx (fun rr hh => bo_runV (As := [.ref (bo_a x 149), .int (σ 135 26), .int 0, .int 100]) (S := []) hx dX11_takeDrinker_66 lk_X11_159 mi_X11_into bo_o_135 rfl rfl (kX11_into (bo_l x) (bo_g x) hx.inj a3.2 7 149 (σ 135 26) 0 100 bo_c_149 rr hh) ⟨by decide, by decide⟩ rfl rfl (Nat.le_of_ble_eq_true rfl)) (fun a5 ha5 => ?_)
      exact bo_retw dX11_takeDrinker_69 (fun h => by cases h)
    · refine bo_iload_n hx dX11_takeDrinker_53 rfl 0 rfl ?_
      refine bo_goto hx 69 dX11_takeDrinker_54 (by decide) ?_
      exact bo_retw dX11_takeDrinker_69 (fun h => by cases h)
theorem kX11_takeDrinker (l : Launch) (g : bo_G) (hi : bo_inj g) (σ : bo_M) : bo_CW l g yX11_takeDrinker cX11_takeDrinker 3 (some .int) 3 73 [.ref (g.2.2 135)] σ false (mX11_takeDrinker σ) :=
  bo_metW rfl (Or.inl ⟨rfl, rfl⟩) (by decide) rfl hi (Nat.le_of_ble_eq_true rfl) (fun x e1 e2 hx => by subst e1; subst e2; exact bX11_takeDrinker x hx σ)
-- BellRopeModel.takeTime
theorem dX11_takeTime_0 : decode cX11_takeTime 0 = .ok (.aload_n 0, 1) := by decide +kernel
theorem dX11_takeTime_1 : decode cX11_takeTime 1 = .ok (.getfield 166, 3) := by decide +kernel
theorem dX11_takeTime_4 : decode cX11_takeTime 4 = .ok (.istore_n 1, 1) := by decide +kernel
theorem dX11_takeTime_5 : decode cX11_takeTime 5 = .ok (.aload_n 0, 1) := by decide +kernel
theorem dX11_takeTime_6 : decode cX11_takeTime 6 = .ok (.dup, 1) := by decide +kernel
theorem dX11_takeTime_7 : decode cX11_takeTime 7 = .ok (.getfield 166, 3) := by decide +kernel
theorem dX11_takeTime_10 : decode cX11_takeTime 10 = .ok (.iconst 1, 1) := by decide +kernel
theorem dX11_takeTime_11 : decode cX11_takeTime 11 = .ok (.iadd, 1) := by decide +kernel
theorem dX11_takeTime_12 : decode cX11_takeTime 12 = .ok (.putfield 166, 3) := by decide +kernel
theorem dX11_takeTime_15 : decode cX11_takeTime 15 = .ok (.aload_n 0, 1) := by decide +kernel
theorem dX11_takeTime_16 : decode cX11_takeTime 16 = .ok (.aload_n 0, 1) := by decide +kernel
theorem dX11_takeTime_17 : decode cX11_takeTime 17 = .ok (.getfield 56, 3) := by decide +kernel
theorem dX11_takeTime_20 : decode cX11_takeTime 20 = .ok (.iload_n 1, 1) := by decide +kernel
theorem dX11_takeTime_21 : decode cX11_takeTime 21 = .ok (.iconst 0, 1) := by decide +kernel
theorem dX11_takeTime_22 : decode cX11_takeTime 22 = .ok (.bipush 95, 2) := by decide +kernel
theorem dX11_takeTime_24 : decode cX11_takeTime 24 = .ok (.invokevirtual 159, 3) := by decide +kernel
theorem dX11_takeTime_27 : decode cX11_takeTime 27 = .ok (.istore_n 2, 1) := by decide +kernel
theorem dX11_takeTime_28 : decode cX11_takeTime 28 = .ok (.bipush 96, 2) := by decide +kernel
theorem dX11_takeTime_30 : decode cX11_takeTime 30 = .ok (.aload_n 0, 1) := by decide +kernel
theorem dX11_takeTime_31 : decode cX11_takeTime 31 = .ok (.getfield 56, 3) := by decide +kernel
theorem dX11_takeTime_34 : decode cX11_takeTime 34 = .ok (.iload_n 1, 1) := by decide +kernel
theorem dX11_takeTime_35 : decode cX11_takeTime 35 = .ok (.iaload, 1) := by decide +kernel
theorem dX11_takeTime_36 : decode cX11_takeTime 36 = .ok (.isub, 1) := by decide +kernel
theorem dX11_takeTime_37 : decode cX11_takeTime 37 = .ok (.bipush 24, 2) := by decide +kernel
theorem dX11_takeTime_54 : decode cX11_takeTime 54 = .ok (.bipush 24, 2) := by decide +kernel
theorem dX11_takeTime_42 : decode cX11_takeTime 42 = .ok (.bipush 96, 2) := by decide +kernel
theorem dX11_takeTime_44 : decode cX11_takeTime 44 = .ok (.aload_n 0, 1) := by decide +kernel
theorem dX11_takeTime_45 : decode cX11_takeTime 45 = .ok (.getfield 56, 3) := by decide +kernel
theorem dX11_takeTime_48 : decode cX11_takeTime 48 = .ok (.iload_n 1, 1) := by decide +kernel
theorem dX11_takeTime_49 : decode cX11_takeTime 49 = .ok (.iaload, 1) := by decide +kernel
theorem dX11_takeTime_50 : decode cX11_takeTime 50 = .ok (.isub, 1) := by decide +kernel
theorem dX11_takeTime_51 : decode cX11_takeTime 51 = .ok (.goto 5, 3) := by decide +kernel
theorem dX11_takeTime_39 : decode cX11_takeTime 39 = .ok (.if_icmp .ge 15, 3) := by decide +kernel
theorem dX11_takeTime_56 : decode cX11_takeTime 56 = .ok (.istore_n 3, 1) := by decide +kernel
theorem dX11_takeTime_57 : decode cX11_takeTime 57 = .ok (.iload_n 2, 1) := by decide +kernel
theorem dX11_takeTime_65 : decode cX11_takeTime 65 = .ok (.aload_n 0, 1) := by decide +kernel
theorem dX11_takeTime_66 : decode cX11_takeTime 66 = .ok (.aload_n 0, 1) := by decide +kernel
theorem dX11_takeTime_67 : decode cX11_takeTime 67 = .ok (.getfield 59, 3) := by decide +kernel
theorem dX11_takeTime_70 : decode cX11_takeTime 70 = .ok (.iload_n 1, 1) := by decide +kernel
theorem dX11_takeTime_71 : decode cX11_takeTime 71 = .ok (.iconst 1, 1) := by decide +kernel
theorem dX11_takeTime_72 : decode cX11_takeTime 72 = .ok (.iload_n 3, 1) := by decide +kernel
theorem dX11_takeTime_73 : decode cX11_takeTime 73 = .ok (.invokevirtual 159, 3) := by decide +kernel
theorem dX11_takeTime_76 : decode cX11_takeTime 76 = .ok (.ireturn, 1) := by decide +kernel
theorem dX11_takeTime_61 : decode cX11_takeTime 61 = .ok (.iload_n 2, 1) := by decide +kernel
theorem dX11_takeTime_62 : decode cX11_takeTime 62 = .ok (.goto 14, 3) := by decide +kernel
theorem dX11_takeTime_58 : decode cX11_takeTime 58 = .ok (.ifCond .le 7, 3) := by decide +kernel
theorem bX11_takeTime (x : bo_X) (hx : bo_OK x cX11_takeTime RX11 4 3 73) (σ : bo_M) : bo_D x 0 [(0, .ref (bo_a x 135))] [] σ (mX11_takeTime σ) (bo_Rw x cX11_takeTime false) := by
  unfold mX11_takeTime
  refine bo_aload_n hx dX11_takeTime_0 rfl 0 rfl ?_
  refine gf_X11_166 hx dX11_takeTime_1 ?_
  refine bo_istore_n (L' := [(1, .int (σ 135 30)), (0, .ref (bo_a x 135))]) hx dX11_takeTime_4 rfl (by decide) rfl ?_
  refine bo_aload_n hx dX11_takeTime_5 rfl 1 rfl ?_
  refine bo_dup hx dX11_takeTime_6 rfl ?_
  refine gf_X11_166 hx dX11_takeTime_7 ?_
  refine bo_iconst (v := 1) hx dX11_takeTime_10 (by decide) ?_
  refine bo_iadd hx dX11_takeTime_11 ?_
  refine pf_X11_166 hx dX11_takeTime_12 (fun σ1 => ?_)
  refine bo_aload_n hx dX11_takeTime_15 rfl 1 rfl ?_
  refine bo_aload_n hx dX11_takeTime_16 rfl 1 rfl ?_
  refine gf_X11_56 hx dX11_takeTime_17 ?_
  refine bo_iload_n hx dX11_takeTime_20 rfl 0 rfl ?_
  refine bo_iconst (v := 0) hx dX11_takeTime_21 (by decide) ?_
  refine bo_bipush (v := 95) hx dX11_takeTime_22 (by decide) ?_
  refine bo_goW (z := false) hx (fun rr hh => bo_runV (As := [.ref (bo_a x 150), .int (σ 135 30), .int 0, .int 95]) (S := []) hx dX11_takeTime_24 lk_X11_159 mi_X11_into bo_o_135 rfl rfl (kX11_into (bo_l x) (bo_g x) hx.inj σ1 4 150 (σ 135 30) 0 95 bo_c_150 rr hh) ⟨by decide, by decide⟩ rfl rfl (Nat.le_of_ble_eq_true rfl)) (fun a2 ha2 => ?_)
  refine bo_istore_n (L' := [(2, .int a2.1), (1, .int (σ 135 30)), (0, .ref (bo_a x 135))]) hx dX11_takeTime_27 rfl (by decide) rfl ?_
  refine bo_bipush (v := 96) hx dX11_takeTime_28 (by decide) ?_
  refine bo_aload_n hx dX11_takeTime_30 rfl 2 rfl ?_
  refine gf_X11_56 hx dX11_takeTime_31 ?_
  refine bo_iload_n hx dX11_takeTime_34 rfl 1 rfl ?_
  refine bo_iald hx bo_c_150 dX11_takeTime_35 (fun v3 => ?_)
  refine bo_isub hx dX11_takeTime_36 ?_
  refine bo_bipush (v := 24) hx dX11_takeTime_37 (by decide) ?_
  refine bo_seq 56 (fun a => [(0, .ref (bo_a x 135)), (1, .int (σ 135 30)), (2, .int a2.1)]) (fun a => [.int a]) (fun a => a2.2) ?_ (fun a4 => ?_)
  · refine bo_icmp_ge hx 54 dX11_takeTime_39 (by decide) ?_ ?_
    · refine bo_bipush (v := 24) hx dX11_takeTime_54 (by decide) ?_
      refine bo_sub (L' := [(0, .ref (bo_a x 135)), (1, .int (σ 135 30)), (2, .int a2.1)]) [2, 1, 0] rfl ?_
      exact bo_arr (fun h => h)
    · refine bo_bipush (v := 96) hx dX11_takeTime_42 (by decide) ?_
      refine bo_aload_n hx dX11_takeTime_44 rfl 2 rfl ?_
      refine gf_X11_56 hx dX11_takeTime_45 ?_
      refine bo_iload_n hx dX11_takeTime_48 rfl 1 rfl ?_
      refine bo_iald hx bo_c_150 dX11_takeTime_49 (fun v5 => ?_)
      refine bo_isub hx dX11_takeTime_50 ?_
      refine bo_goto hx 56 dX11_takeTime_51 (by decide) ?_
      refine bo_sub (L' := [(0, .ref (bo_a x 135)), (1, .int (σ 135 30)), (2, .int a2.1)]) [2, 1, 0] rfl ?_
      exact bo_arr (fun h => h)
  · refine bo_istore_n (L' := [(3, .int a4), (0, .ref (bo_a x 135)), (1, .int (σ 135 30)), (2, .int a2.1)]) hx dX11_takeTime_56 rfl (by decide) rfl ?_
    refine bo_iload_n hx dX11_takeTime_57 rfl 3 rfl ?_
    refine bo_if_le hx 65 dX11_takeTime_58 (by decide) ?_ ?_
    · refine bo_aload_n hx dX11_takeTime_65 rfl 1 rfl ?_
      refine bo_aload_n hx dX11_takeTime_66 rfl 1 rfl ?_
      refine gf_X11_59 hx dX11_takeTime_67 ?_
      refine bo_iload_n hx dX11_takeTime_70 rfl 2 rfl ?_
      refine bo_iconst (v := 1) hx dX11_takeTime_71 (by decide) ?_
      refine bo_iload_n hx dX11_takeTime_72 rfl 0 rfl ?_
      refine bo_goW (z := false) hx (fun rr hh => bo_runV (As := [.ref (bo_a x 151), .int (σ 135 30), .int 1, .int a4]) (S := []) hx dX11_takeTime_73 lk_X11_159 mi_X11_into bo_o_135 rfl rfl (kX11_into (bo_l x) (bo_g x) hx.inj a2.2 4 151 (σ 135 30) 1 a4 bo_c_151 rr hh) ⟨by decide, by decide⟩ rfl rfl (Nat.le_of_ble_eq_true rfl)) (fun a6 ha6 => ?_)
      exact bo_retw dX11_takeTime_76 (fun h => by cases h)
    · refine bo_iload_n hx dX11_takeTime_61 rfl 3 rfl ?_
      refine bo_goto hx 76 dX11_takeTime_62 (by decide) ?_
      exact bo_retw dX11_takeTime_76 (fun h => by cases h)
theorem kX11_takeTime (l : Launch) (g : bo_G) (hi : bo_inj g) (σ : bo_M) : bo_CW l g yX11_takeTime cX11_takeTime 4 (some .int) 3 73 [.ref (g.2.2 135)] σ false (mX11_takeTime σ) :=
  bo_metW rfl (Or.inl ⟨rfl, rfl⟩) (by decide) rfl hi (Nat.le_of_ble_eq_true rfl) (fun x e1 e2 hx => by subst e1; subst e2; exact bX11_takeTime x hx σ)
-- BellRopeModel.takeGoer
theorem dX11_takeGoer_0 : decode cX11_takeGoer 0 = .ok (.aload_n 0, 1) := by decide +kernel
theorem dX11_takeGoer_1 : decode cX11_takeGoer 1 = .ok (.getfield 169, 3) := by decide +kernel
theorem dX11_takeGoer_4 : decode cX11_takeGoer 4 = .ok (.istore_n 1, 1) := by decide +kernel
theorem dX11_takeGoer_5 : decode cX11_takeGoer 5 = .ok (.aload_n 0, 1) := by decide +kernel
theorem dX11_takeGoer_6 : decode cX11_takeGoer 6 = .ok (.dup, 1) := by decide +kernel
theorem dX11_takeGoer_7 : decode cX11_takeGoer 7 = .ok (.getfield 169, 3) := by decide +kernel
theorem dX11_takeGoer_10 : decode cX11_takeGoer 10 = .ok (.iconst 1, 1) := by decide +kernel
theorem dX11_takeGoer_11 : decode cX11_takeGoer 11 = .ok (.iadd, 1) := by decide +kernel
theorem dX11_takeGoer_12 : decode cX11_takeGoer 12 = .ok (.putfield 169, 3) := by decide +kernel
theorem dX11_takeGoer_15 : decode cX11_takeGoer 15 = .ok (.aload_n 0, 1) := by decide +kernel
theorem dX11_takeGoer_16 : decode cX11_takeGoer 16 = .ok (.aload_n 0, 1) := by decide +kernel
theorem dX11_takeGoer_17 : decode cX11_takeGoer 17 = .ok (.getfield 62, 3) := by decide +kernel
theorem dX11_takeGoer_20 : decode cX11_takeGoer 20 = .ok (.iload_n 1, 1) := by decide +kernel
theorem dX11_takeGoer_21 : decode cX11_takeGoer 21 = .ok (.iconst 0, 1) := by decide +kernel
theorem dX11_takeGoer_22 : decode cX11_takeGoer 22 = .ok (.bipush 95, 2) := by decide +kernel
theorem dX11_takeGoer_24 : decode cX11_takeGoer 24 = .ok (.invokevirtual 159, 3) := by decide +kernel
theorem dX11_takeGoer_27 : decode cX11_takeGoer 27 = .ok (.istore_n 2, 1) := by decide +kernel
theorem dX11_takeGoer_28 : decode cX11_takeGoer 28 = .ok (.iload_n 2, 1) := by decide +kernel
theorem dX11_takeGoer_36 : decode cX11_takeGoer 36 = .ok (.aload_n 0, 1) := by decide +kernel
theorem dX11_takeGoer_37 : decode cX11_takeGoer 37 = .ok (.aload_n 0, 1) := by decide +kernel
theorem dX11_takeGoer_38 : decode cX11_takeGoer 38 = .ok (.getfield 65, 3) := by decide +kernel
theorem dX11_takeGoer_41 : decode cX11_takeGoer 41 = .ok (.iload_n 1, 1) := by decide +kernel
theorem dX11_takeGoer_42 : decode cX11_takeGoer 42 = .ok (.iconst 0, 1) := by decide +kernel
theorem dX11_takeGoer_43 : decode cX11_takeGoer 43 = .ok (.bipush 40, 2) := by decide +kernel
theorem dX11_takeGoer_45 : decode cX11_takeGoer 45 = .ok (.invokevirtual 159, 3) := by decide +kernel
theorem dX11_takeGoer_48 : decode cX11_takeGoer 48 = .ok (.ireturn, 1) := by decide +kernel
theorem dX11_takeGoer_32 : decode cX11_takeGoer 32 = .ok (.iload_n 2, 1) := by decide +kernel
theorem dX11_takeGoer_33 : decode cX11_takeGoer 33 = .ok (.goto 15, 3) := by decide +kernel
theorem dX11_takeGoer_29 : decode cX11_takeGoer 29 = .ok (.ifCond .le 7, 3) := by decide +kernel
theorem bX11_takeGoer (x : bo_X) (hx : bo_OK x cX11_takeGoer RX11 3 3 73) (σ : bo_M) : bo_D x 0 [(0, .ref (bo_a x 135))] [] σ (mX11_takeGoer σ) (bo_Rw x cX11_takeGoer false) := by
  unfold mX11_takeGoer
  refine bo_aload_n hx dX11_takeGoer_0 rfl 0 rfl ?_
  refine gf_X11_169 hx dX11_takeGoer_1 ?_
  refine bo_istore_n (L' := [(1, .int (σ 135 33)), (0, .ref (bo_a x 135))]) hx dX11_takeGoer_4 rfl (by decide) rfl ?_
  refine bo_aload_n hx dX11_takeGoer_5 rfl 1 rfl ?_
  refine bo_dup hx dX11_takeGoer_6 rfl ?_
  refine gf_X11_169 hx dX11_takeGoer_7 ?_
  refine bo_iconst (v := 1) hx dX11_takeGoer_10 (by decide) ?_
  refine bo_iadd hx dX11_takeGoer_11 ?_
  refine pf_X11_169 hx dX11_takeGoer_12 (fun σ1 => ?_)
  refine bo_aload_n hx dX11_takeGoer_15 rfl 1 rfl ?_
  refine bo_aload_n hx dX11_takeGoer_16 rfl 1 rfl ?_
  refine gf_X11_62 hx dX11_takeGoer_17 ?_
  refine bo_iload_n hx dX11_takeGoer_20 rfl 0 rfl ?_
  refine bo_iconst (v := 0) hx dX11_takeGoer_21 (by decide) ?_
  refine bo_bipush (v := 95) hx dX11_takeGoer_22 (by decide) ?_
  refine bo_goW (z := false) hx (fun rr hh => bo_runV (As := [.ref (bo_a x 152), .int (σ 135 33), .int 0, .int 95]) (S := []) hx dX11_takeGoer_24 lk_X11_159 mi_X11_into bo_o_135 rfl rfl (kX11_into (bo_l x) (bo_g x) hx.inj σ1 6 152 (σ 135 33) 0 95 bo_c_152 rr hh) ⟨by decide, by decide⟩ rfl rfl (Nat.le_of_ble_eq_true rfl)) (fun a2 ha2 => ?_)
  refine bo_istore_n (L' := [(2, .int a2.1), (1, .int (σ 135 33)), (0, .ref (bo_a x 135))]) hx dX11_takeGoer_27 rfl (by decide) rfl ?_
  refine bo_iload_n hx dX11_takeGoer_28 rfl 0 rfl ?_
  refine bo_if_le hx 36 dX11_takeGoer_29 (by decide) ?_ ?_
  · refine bo_aload_n hx dX11_takeGoer_36 rfl 2 rfl ?_
    refine bo_aload_n hx dX11_takeGoer_37 rfl 2 rfl ?_
    refine gf_X11_65 hx dX11_takeGoer_38 ?_
    refine bo_iload_n hx dX11_takeGoer_41 rfl 1 rfl ?_
    refine bo_iconst (v := 0) hx dX11_takeGoer_42 (by decide) ?_
    refine bo_bipush (v := 40) hx dX11_takeGoer_43 (by decide) ?_
    refine bo_goW (z := false) hx (fun rr hh => bo_runV (As := [.ref (bo_a x 153), .int (σ 135 33), .int 0, .int 40]) (S := []) hx dX11_takeGoer_45 lk_X11_159 mi_X11_into bo_o_135 rfl rfl (kX11_into (bo_l x) (bo_g x) hx.inj a2.2 6 153 (σ 135 33) 0 40 bo_c_153 rr hh) ⟨by decide, by decide⟩ rfl rfl (Nat.le_of_ble_eq_true rfl)) (fun a3 ha3 => ?_)
    exact bo_retw dX11_takeGoer_48 (fun h => by cases h)
  · refine bo_iload_n hx dX11_takeGoer_32 rfl 0 rfl ?_
    refine bo_goto hx 48 dX11_takeGoer_33 (by decide) ?_
    exact bo_retw dX11_takeGoer_48 (fun h => by cases h)
theorem kX11_takeGoer (l : Launch) (g : bo_G) (hi : bo_inj g) (σ : bo_M) : bo_CW l g yX11_takeGoer cX11_takeGoer 3 (some .int) 3 73 [.ref (g.2.2 135)] σ false (mX11_takeGoer σ) :=
  bo_metW rfl (Or.inl ⟨rfl, rfl⟩) (by decide) rfl hi (Nat.le_of_ble_eq_true rfl) (fun x e1 e2 hx => by subst e1; subst e2; exact bX11_takeGoer x hx σ)
-- BellRopeModel.takeSignal
theorem dX11_takeSignal_0 : decode cX11_takeSignal 0 = .ok (.aload_n 0, 1) := by decide +kernel
theorem dX11_takeSignal_1 : decode cX11_takeSignal 1 = .ok (.getfield 172, 3) := by decide +kernel
theorem dX11_takeSignal_4 : decode cX11_takeSignal 4 = .ok (.istore_n 1, 1) := by decide +kernel
theorem dX11_takeSignal_5 : decode cX11_takeSignal 5 = .ok (.aload_n 0, 1) := by decide +kernel
theorem dX11_takeSignal_6 : decode cX11_takeSignal 6 = .ok (.dup, 1) := by decide +kernel
theorem dX11_takeSignal_7 : decode cX11_takeSignal 7 = .ok (.getfield 172, 3) := by decide +kernel
theorem dX11_takeSignal_10 : decode cX11_takeSignal 10 = .ok (.iconst 1, 1) := by decide +kernel
theorem dX11_takeSignal_11 : decode cX11_takeSignal 11 = .ok (.iadd, 1) := by decide +kernel
theorem dX11_takeSignal_12 : decode cX11_takeSignal 12 = .ok (.putfield 172, 3) := by decide +kernel
theorem dX11_takeSignal_15 : decode cX11_takeSignal 15 = .ok (.aload_n 0, 1) := by decide +kernel
theorem dX11_takeSignal_16 : decode cX11_takeSignal 16 = .ok (.aload_n 0, 1) := by decide +kernel
theorem dX11_takeSignal_17 : decode cX11_takeSignal 17 = .ok (.getfield 68, 3) := by decide +kernel
theorem dX11_takeSignal_20 : decode cX11_takeSignal 20 = .ok (.iload_n 1, 1) := by decide +kernel
theorem dX11_takeSignal_21 : decode cX11_takeSignal 21 = .ok (.iconst 1, 1) := by decide +kernel
theorem dX11_takeSignal_22 : decode cX11_takeSignal 22 = .ok (.bipush 16, 2) := by decide +kernel
theorem dX11_takeSignal_24 : decode cX11_takeSignal 24 = .ok (.invokevirtual 159, 3) := by decide +kernel
theorem dX11_takeSignal_27 : decode cX11_takeSignal 27 = .ok (.istore_n 2, 1) := by decide +kernel
theorem dX11_takeSignal_28 : decode cX11_takeSignal 28 = .ok (.iconst 0, 1) := by decide +kernel
theorem dX11_takeSignal_29 : decode cX11_takeSignal 29 = .ok (.istore_n 3, 1) := by decide +kernel
theorem dX11_takeSignal_30 : decode cX11_takeSignal 30 = .ok (.iload_n 3, 1) := by decide +kernel
theorem dX11_takeSignal_31 : decode cX11_takeSignal 31 = .ok (.iload_n 1, 1) := by decide +kernel
theorem dX11_takeSignal_70 : decode cX11_takeSignal 70 = .ok (.iload_n 2, 1) := by decide +kernel
theorem dX11_takeSignal_71 : decode cX11_takeSignal 71 = .ok (.ireturn, 1) := by decide +kernel
theorem dX11_takeSignal_35 : decode cX11_takeSignal 35 = .ok (.iload_n 2, 1) := by decide +kernel
theorem dX11_takeSignal_39 : decode cX11_takeSignal 39 = .ok (.aload_n 0, 1) := by decide +kernel
theorem dX11_takeSignal_40 : decode cX11_takeSignal 40 = .ok (.getfield 68, 3) := by decide +kernel
theorem dX11_takeSignal_43 : decode cX11_takeSignal 43 = .ok (.iload_n 3, 1) := by decide +kernel
theorem dX11_takeSignal_44 : decode cX11_takeSignal 44 = .ok (.iaload, 1) := by decide +kernel
theorem dX11_takeSignal_45 : decode cX11_takeSignal 45 = .ok (.aload_n 0, 1) := by decide +kernel
theorem dX11_takeSignal_46 : decode cX11_takeSignal 46 = .ok (.getfield 68, 3) := by decide +kernel
theorem dX11_takeSignal_49 : decode cX11_takeSignal 49 = .ok (.iload_n 1, 1) := by decide +kernel
theorem dX11_takeSignal_50 : decode cX11_takeSignal 50 = .ok (.iaload, 1) := by decide +kernel
theorem dX11_takeSignal_64 : decode cX11_takeSignal 64 = .ok (.iinc 3 1, 3) := by decide +kernel
theorem dX11_takeSignal_67 : decode cX11_takeSignal 67 = .ok (.goto (-37), 3) := by decide +kernel
theorem dX11_takeSignal_54 : decode cX11_takeSignal 54 = .ok (.aload_n 0, 1) := by decide +kernel
theorem dX11_takeSignal_55 : decode cX11_takeSignal 55 = .ok (.iconst 4, 1) := by decide +kernel
theorem dX11_takeSignal_56 : decode cX11_takeSignal 56 = .ok (.aload_n 0, 1) := by decide +kernel
theorem dX11_takeSignal_57 : decode cX11_takeSignal 57 = .ok (.getfield 147, 3) := by decide +kernel
theorem dX11_takeSignal_60 : decode cX11_takeSignal 60 = .ok (.invokevirtual 143, 3) := by decide +kernel
theorem dX11_takeSignal_63 : decode cX11_takeSignal 63 = .ok (.ireturn, 1) := by decide +kernel
theorem dX11_takeSignal_51 : decode cX11_takeSignal 51 = .ok (.if_icmp .ne 13, 3) := by decide +kernel
theorem dX11_takeSignal_36 : decode cX11_takeSignal 36 = .ok (.ifCond .ne 34, 3) := by decide +kernel
theorem dX11_takeSignal_32 : decode cX11_takeSignal 32 = .ok (.if_icmp .ge 38, 3) := by decide +kernel
theorem lX11_takeSignal_L30 (x : bo_X) (hx : bo_OK x cX11_takeSignal RX11 4 3 73) (f1 : Int32) (f2 : Int32) : ∀ (n : Nat) (w3 : Int32) (σ : bo_M), bo_D x 30 [(0, .ref (bo_a x 135)), (1, .int f1), (2, .int f2), (3, .int w3)] [] σ (mX11_takeSignal_L30 f1 f2 n w3 σ) (bo_Rw x cX11_takeSignal false) := by
  intro n
  induction n with
  | zero => intro w3 σ; exact bo_none
  | succ n ih =>
    intro w3 σ
    rw [mX11_takeSignal_L30]
    refine bo_iload_n hx dX11_takeSignal_30 rfl 3 rfl ?_
    refine bo_iload_n hx dX11_takeSignal_31 rfl 1 rfl ?_
    refine bo_icmp_ge hx 70 dX11_takeSignal_32 (by decide) ?_ ?_
    · refine bo_iload_n hx dX11_takeSignal_70 rfl 2 rfl ?_
      exact bo_retw dX11_takeSignal_71 (fun h => by cases h)
    · refine bo_iload_n hx dX11_takeSignal_35 rfl 2 rfl ?_
      refine bo_if_ne hx 70 dX11_takeSignal_36 (by decide) ?_ ?_
      · refine bo_iload_n hx dX11_takeSignal_70 rfl 2 rfl ?_
        exact bo_retw dX11_takeSignal_71 (fun h => by cases h)
      · refine bo_aload_n hx dX11_takeSignal_39 rfl 0 rfl ?_
        refine gf_X11_68 hx dX11_takeSignal_40 ?_
        refine bo_iload_n hx dX11_takeSignal_43 rfl 3 rfl ?_
        refine bo_iald hx bo_c_154 dX11_takeSignal_44 (fun v3 => ?_)
        refine bo_aload_n hx dX11_takeSignal_45 rfl 0 rfl ?_
        refine gf_X11_68 hx dX11_takeSignal_46 ?_
        refine bo_iload_n hx dX11_takeSignal_49 rfl 1 rfl ?_
        refine bo_iald hx bo_c_154 dX11_takeSignal_50 (fun v4 => ?_)
        refine bo_icmp_ne hx 64 dX11_takeSignal_51 (by decide) ?_ ?_
        · refine bo_iinc (L' := [(3, .int (w3 + 1)), (0, .ref (bo_a x 135)), (1, .int f1), (2, .int f2)]) (w := (w3 + 1)) hx dX11_takeSignal_64 3 rfl rfl (by decide) rfl ?_
          refine bo_goto hx 30 dX11_takeSignal_67 (by decide) ?_
          refine bo_sub (L' := [(0, .ref (bo_a x 135)), (1, .int f1), (2, .int f2), (3, .int (w3 + 1))]) [1, 2, 3, 0] rfl ?_
          exact ih (w3 + 1) σ
        · refine bo_aload_n hx dX11_takeSignal_54 rfl 0 rfl ?_
          refine bo_iconst (v := 4) hx dX11_takeSignal_55 (by decide) ?_
          refine bo_aload_n hx dX11_takeSignal_56 rfl 0 rfl ?_
          refine gf_X11_147 hx dX11_takeSignal_57 ?_
          refine bo_goW (z := false) hx (fun rr hh => bo_runV (As := [.int 4, .int (σ 135 23)]) (S := []) hx dX11_takeSignal_60 lk_X11_143 mi_X11_fails bo_o_135 rfl rfl (kX11_fails (bo_l x) (bo_g x) hx.inj σ 4 (σ 135 23) rr hh) ⟨by decide, by decide⟩ rfl rfl (Nat.le_of_ble_eq_true rfl)) (fun a5 ha5 => ?_)
          exact bo_retw dX11_takeSignal_63 (fun h => by cases h)
theorem bX11_takeSignal (x : bo_X) (hx : bo_OK x cX11_takeSignal RX11 4 3 73) (σ : bo_M) : bo_D x 0 [(0, .ref (bo_a x 135))] [] σ (mX11_takeSignal σ) (bo_Rw x cX11_takeSignal false) := by
  unfold mX11_takeSignal
  refine bo_aload_n hx dX11_takeSignal_0 rfl 0 rfl ?_
  refine gf_X11_172 hx dX11_takeSignal_1 ?_
  refine bo_istore_n (L' := [(1, .int (σ 135 36)), (0, .ref (bo_a x 135))]) hx dX11_takeSignal_4 rfl (by decide) rfl ?_
  refine bo_aload_n hx dX11_takeSignal_5 rfl 1 rfl ?_
  refine bo_dup hx dX11_takeSignal_6 rfl ?_
  refine gf_X11_172 hx dX11_takeSignal_7 ?_
  refine bo_iconst (v := 1) hx dX11_takeSignal_10 (by decide) ?_
  refine bo_iadd hx dX11_takeSignal_11 ?_
  refine pf_X11_172 hx dX11_takeSignal_12 (fun σ1 => ?_)
  refine bo_aload_n hx dX11_takeSignal_15 rfl 1 rfl ?_
  refine bo_aload_n hx dX11_takeSignal_16 rfl 1 rfl ?_
  refine gf_X11_68 hx dX11_takeSignal_17 ?_
  refine bo_iload_n hx dX11_takeSignal_20 rfl 0 rfl ?_
  refine bo_iconst (v := 1) hx dX11_takeSignal_21 (by decide) ?_
  refine bo_bipush (v := 16) hx dX11_takeSignal_22 (by decide) ?_
  refine bo_goW (z := false) hx (fun rr hh => bo_runV (As := [.ref (bo_a x 154), .int (σ 135 36), .int 1, .int 16]) (S := []) hx dX11_takeSignal_24 lk_X11_159 mi_X11_into bo_o_135 rfl rfl (kX11_into (bo_l x) (bo_g x) hx.inj σ1 5 154 (σ 135 36) 1 16 bo_c_154 rr hh) ⟨by decide, by decide⟩ rfl rfl (Nat.le_of_ble_eq_true rfl)) (fun a2 ha2 => ?_)
  refine bo_istore_n (L' := [(2, .int a2.1), (1, .int (σ 135 36)), (0, .ref (bo_a x 135))]) hx dX11_takeSignal_27 rfl (by decide) rfl ?_
  refine bo_iconst (v := 0) hx dX11_takeSignal_28 (by decide) ?_
  refine bo_istore_n (L' := [(3, .int 0), (2, .int a2.1), (1, .int (σ 135 36)), (0, .ref (bo_a x 135))]) hx dX11_takeSignal_29 rfl (by decide) rfl ?_
  refine bo_sub (L' := [(0, .ref (bo_a x 135)), (1, .int (σ 135 36)), (2, .int a2.1), (3, .int 0)]) [3, 2, 1, 0] rfl ?_
  exact lX11_takeSignal_L30 x hx (σ 135 36) a2.1 bo_fuel 0 a2.2
theorem kX11_takeSignal (l : Launch) (g : bo_G) (hi : bo_inj g) (σ : bo_M) : bo_CW l g yX11_takeSignal cX11_takeSignal 4 (some .int) 3 73 [.ref (g.2.2 135)] σ false (mX11_takeSignal σ) :=
  bo_metW rfl (Or.inl ⟨rfl, rfl⟩) (by decide) rfl hi (Nat.le_of_ble_eq_true rfl) (fun x e1 e2 hx => by subst e1; subst e2; exact bX11_takeSignal x hx σ)
-- BellRopeModel.whichClause
theorem dX11_whichClause_0 : decode cX11_whichClause 0 = .ok (.iload_n 1, 1) := by decide +kernel
theorem dX11_whichClause_1 : decode cX11_whichClause 1 = .ok (.bipush 98, 2) := by decide +kernel
theorem dX11_whichClause_10 : decode cX11_whichClause 10 = .ok (.iload_n 1, 1) := by decide +kernel
theorem dX11_whichClause_11 : decode cX11_whichClause 11 = .ok (.bipush 100, 2) := by decide +kernel
theorem dX11_whichClause_20 : decode cX11_whichClause 20 = .ok (.iload_n 1, 1) := by decide +kernel
theorem dX11_whichClause_21 : decode cX11_whichClause 21 = .ok (.bipush 115, 2) := by decide +kernel
theorem dX11_whichClause_30 : decode cX11_whichClause 30 = .ok (.iload_n 1, 1) := by decide +kernel
theorem dX11_whichClause_31 : decode cX11_whichClause 31 = .ok (.bipush 103, 2) := by decide +kernel
theorem dX11_whichClause_40 : decode cX11_whichClause 40 = .ok (.iload_n 1, 1) := by decide +kernel
theorem dX11_whichClause_41 : decode cX11_whichClause 41 = .ok (.bipush 110, 2) := by decide +kernel
theorem dX11_whichClause_50 : decode cX11_whichClause 50 = .ok (.iconst (-1), 1) := by decide +kernel
theorem dX11_whichClause_51 : decode cX11_whichClause 51 = .ok (.ireturn, 1) := by decide +kernel
theorem dX11_whichClause_46 : decode cX11_whichClause 46 = .ok (.iconst 4, 1) := by decide +kernel
theorem dX11_whichClause_47 : decode cX11_whichClause 47 = .ok (.goto 4, 3) := by decide +kernel
theorem dX11_whichClause_43 : decode cX11_whichClause 43 = .ok (.if_icmp .ne 7, 3) := by decide +kernel
theorem dX11_whichClause_36 : decode cX11_whichClause 36 = .ok (.iconst 3, 1) := by decide +kernel
theorem dX11_whichClause_37 : decode cX11_whichClause 37 = .ok (.goto 14, 3) := by decide +kernel
theorem dX11_whichClause_33 : decode cX11_whichClause 33 = .ok (.if_icmp .ne 7, 3) := by decide +kernel
theorem dX11_whichClause_26 : decode cX11_whichClause 26 = .ok (.iconst 2, 1) := by decide +kernel
theorem dX11_whichClause_27 : decode cX11_whichClause 27 = .ok (.goto 24, 3) := by decide +kernel
theorem dX11_whichClause_23 : decode cX11_whichClause 23 = .ok (.if_icmp .ne 7, 3) := by decide +kernel
theorem dX11_whichClause_16 : decode cX11_whichClause 16 = .ok (.iconst 1, 1) := by decide +kernel
theorem dX11_whichClause_17 : decode cX11_whichClause 17 = .ok (.goto 34, 3) := by decide +kernel
theorem dX11_whichClause_13 : decode cX11_whichClause 13 = .ok (.if_icmp .ne 7, 3) := by decide +kernel
theorem dX11_whichClause_6 : decode cX11_whichClause 6 = .ok (.iconst 0, 1) := by decide +kernel
theorem dX11_whichClause_7 : decode cX11_whichClause 7 = .ok (.goto 44, 3) := by decide +kernel
theorem dX11_whichClause_3 : decode cX11_whichClause 3 = .ok (.if_icmp .ne 7, 3) := by decide +kernel
theorem bX11_whichClause (x : bo_X) (hx : bo_OK x cX11_whichClause RX11 2 0 0) (σ : bo_M) (p1 : Int32) : bo_D x 0 [(0, .ref (bo_a x 135)), (1, .int p1)] [] σ (mX11_whichClause σ p1) (bo_Ri x cX11_whichClause σ false) := by
  unfold mX11_whichClause
  refine bo_iload_n hx dX11_whichClause_0 rfl 1 rfl ?_
  refine bo_bipush (v := 98) hx dX11_whichClause_1 (by decide) ?_
  refine bo_icmp_ne hx 10 dX11_whichClause_3 (by decide) ?_ ?_
  · refine bo_iload_n hx dX11_whichClause_10 rfl 1 rfl ?_
    refine bo_bipush (v := 100) hx dX11_whichClause_11 (by decide) ?_
    refine bo_icmp_ne hx 20 dX11_whichClause_13 (by decide) ?_ ?_
    · refine bo_iload_n hx dX11_whichClause_20 rfl 1 rfl ?_
      refine bo_bipush (v := 115) hx dX11_whichClause_21 (by decide) ?_
      refine bo_icmp_ne hx 30 dX11_whichClause_23 (by decide) ?_ ?_
      · refine bo_iload_n hx dX11_whichClause_30 rfl 1 rfl ?_
        refine bo_bipush (v := 103) hx dX11_whichClause_31 (by decide) ?_
        refine bo_icmp_ne hx 40 dX11_whichClause_33 (by decide) ?_ ?_
        · refine bo_iload_n hx dX11_whichClause_40 rfl 1 rfl ?_
          refine bo_bipush (v := 110) hx dX11_whichClause_41 (by decide) ?_
          refine bo_icmp_ne hx 50 dX11_whichClause_43 (by decide) ?_ ?_
          · refine bo_iconst (v := (-1)) hx dX11_whichClause_50 (by decide) ?_
            exact bo_ret dX11_whichClause_51 (fun h => by cases h)
          · refine bo_iconst (v := 4) hx dX11_whichClause_46 (by decide) ?_
            refine bo_goto hx 51 dX11_whichClause_47 (by decide) ?_
            exact bo_ret dX11_whichClause_51 (fun h => by cases h)
        · refine bo_iconst (v := 3) hx dX11_whichClause_36 (by decide) ?_
          refine bo_goto hx 51 dX11_whichClause_37 (by decide) ?_
          exact bo_ret dX11_whichClause_51 (fun h => by cases h)
      · refine bo_iconst (v := 2) hx dX11_whichClause_26 (by decide) ?_
        refine bo_goto hx 51 dX11_whichClause_27 (by decide) ?_
        exact bo_ret dX11_whichClause_51 (fun h => by cases h)
    · refine bo_iconst (v := 1) hx dX11_whichClause_16 (by decide) ?_
      refine bo_goto hx 51 dX11_whichClause_17 (by decide) ?_
      exact bo_ret dX11_whichClause_51 (fun h => by cases h)
  · refine bo_iconst (v := 0) hx dX11_whichClause_6 (by decide) ?_
    refine bo_goto hx 51 dX11_whichClause_7 (by decide) ?_
    exact bo_ret dX11_whichClause_51 (fun h => by cases h)
theorem kX11_whichClause (l : Launch) (g : bo_G) (hi : bo_inj g) (σ : bo_M) (p1 : Int32) : bo_CR l g yX11_whichClause cX11_whichClause 2 (some .int) 0 0 [.ref (g.2.2 135), .int p1] σ false (mX11_whichClause σ p1) :=
  bo_metR rfl (Or.inl ⟨rfl, rfl⟩) (by decide) rfl hi (Nat.le_of_ble_eq_true rfl) (fun x e1 e2 hx => by subst e1; subst e2; exact bX11_whichClause x hx σ p1)
-- BellRopeModel.isFull
theorem dX11_isFull_0 : decode cX11_isFull 0 = .ok (.iload_n 1, 1) := by decide +kernel
theorem dX11_isFull_32 : decode cX11_isFull 32 = .ok (.aload_n 0, 1) := by decide +kernel
theorem dX11_isFull_33 : decode cX11_isFull 33 = .ok (.getfield 156, 3) := by decide +kernel
theorem dX11_isFull_36 : decode cX11_isFull 36 = .ok (.ireturn, 1) := by decide +kernel
theorem dX11_isFull_37 : decode cX11_isFull 37 = .ok (.aload_n 0, 1) := by decide +kernel
theorem dX11_isFull_38 : decode cX11_isFull 38 = .ok (.getfield 163, 3) := by decide +kernel
theorem dX11_isFull_41 : decode cX11_isFull 41 = .ok (.bipush 7, 2) := by decide +kernel
theorem dX11_isFull_50 : decode cX11_isFull 50 = .ok (.iconst 0, 1) := by decide +kernel
theorem dX11_isFull_51 : decode cX11_isFull 51 = .ok (.ireturn, 1) := by decide +kernel
theorem dX11_isFull_46 : decode cX11_isFull 46 = .ok (.iconst 1, 1) := by decide +kernel
theorem dX11_isFull_47 : decode cX11_isFull 47 = .ok (.goto 4, 3) := by decide +kernel
theorem dX11_isFull_43 : decode cX11_isFull 43 = .ok (.if_icmp .ne 7, 3) := by decide +kernel
theorem dX11_isFull_52 : decode cX11_isFull 52 = .ok (.aload_n 0, 1) := by decide +kernel
theorem dX11_isFull_53 : decode cX11_isFull 53 = .ok (.getfield 166, 3) := by decide +kernel
theorem dX11_isFull_56 : decode cX11_isFull 56 = .ok (.iconst 4, 1) := by decide +kernel
theorem dX11_isFull_64 : decode cX11_isFull 64 = .ok (.iconst 0, 1) := by decide +kernel
theorem dX11_isFull_65 : decode cX11_isFull 65 = .ok (.ireturn, 1) := by decide +kernel
theorem dX11_isFull_60 : decode cX11_isFull 60 = .ok (.iconst 1, 1) := by decide +kernel
theorem dX11_isFull_61 : decode cX11_isFull 61 = .ok (.goto 4, 3) := by decide +kernel
theorem dX11_isFull_57 : decode cX11_isFull 57 = .ok (.if_icmp .ne 7, 3) := by decide +kernel
theorem dX11_isFull_66 : decode cX11_isFull 66 = .ok (.aload_n 0, 1) := by decide +kernel
theorem dX11_isFull_67 : decode cX11_isFull 67 = .ok (.getfield 169, 3) := by decide +kernel
theorem dX11_isFull_70 : decode cX11_isFull 70 = .ok (.bipush 6, 2) := by decide +kernel
theorem dX11_isFull_79 : decode cX11_isFull 79 = .ok (.iconst 0, 1) := by decide +kernel
theorem dX11_isFull_80 : decode cX11_isFull 80 = .ok (.ireturn, 1) := by decide +kernel
theorem dX11_isFull_75 : decode cX11_isFull 75 = .ok (.iconst 1, 1) := by decide +kernel
theorem dX11_isFull_76 : decode cX11_isFull 76 = .ok (.goto 4, 3) := by decide +kernel
theorem dX11_isFull_72 : decode cX11_isFull 72 = .ok (.if_icmp .ne 7, 3) := by decide +kernel
theorem dX11_isFull_81 : decode cX11_isFull 81 = .ok (.aload_n 0, 1) := by decide +kernel
theorem dX11_isFull_82 : decode cX11_isFull 82 = .ok (.getfield 172, 3) := by decide +kernel
theorem dX11_isFull_85 : decode cX11_isFull 85 = .ok (.iconst 5, 1) := by decide +kernel
theorem dX11_isFull_93 : decode cX11_isFull 93 = .ok (.iconst 0, 1) := by decide +kernel
theorem dX11_isFull_94 : decode cX11_isFull 94 = .ok (.ireturn, 1) := by decide +kernel
theorem dX11_isFull_89 : decode cX11_isFull 89 = .ok (.iconst 1, 1) := by decide +kernel
theorem dX11_isFull_90 : decode cX11_isFull 90 = .ok (.goto 4, 3) := by decide +kernel
theorem dX11_isFull_86 : decode cX11_isFull 86 = .ok (.if_icmp .ne 7, 3) := by decide +kernel
theorem dX11_isFull_1 : decode cX11_isFull 1 = .ok (.tableswitch 80 0 3 #[31, 36, 51, 65], 31) := by decide +kernel
theorem bX11_isFull (x : bo_X) (hx : bo_OK x cX11_isFull RX11 2 0 0) (σ : bo_M) (p1 : Int32) : bo_D x 0 [(0, .ref (bo_a x 135)), (1, .int p1)] [] σ (mX11_isFull σ p1) (bo_Ri x cX11_isFull σ true) := by
  unfold mX11_isFull
  refine bo_iload_n hx dX11_isFull_0 rfl 1 rfl ?_
  refine bo_by (fun c1 => ?_) (fun c1 => ?_)
  · refine bo_tabIn (v := 0) (off := 31) hx 32 dX11_isFull_1 c1 (by decide) (by decide) (by decide) (by decide) ?_
    refine bo_aload_n hx dX11_isFull_32 rfl 0 rfl ?_
    refine gf_X11_156 hx dX11_isFull_33 ?_
    exact bo_ret dX11_isFull_36 (fun _ => (bo_b1 _))
  · refine bo_by (fun c2 => ?_) (fun c2 => ?_)
    · refine bo_tabIn (v := 1) (off := 36) hx 37 dX11_isFull_1 c2 (by decide) (by decide) (by decide) (by decide) ?_
      refine bo_aload_n hx dX11_isFull_37 rfl 0 rfl ?_
      refine gf_X11_163 hx dX11_isFull_38 ?_
      refine bo_bipush (v := 7) hx dX11_isFull_41 (by decide) ?_
      refine bo_icmp_ne hx 50 dX11_isFull_43 (by decide) ?_ ?_
      · refine bo_iconst (v := 0) hx dX11_isFull_50 (by decide) ?_
        exact bo_ret dX11_isFull_51 (fun _ => bo_b_0)
      · refine bo_iconst (v := 1) hx dX11_isFull_46 (by decide) ?_
        refine bo_goto hx 51 dX11_isFull_47 (by decide) ?_
        exact bo_ret dX11_isFull_51 (fun _ => bo_b_1)
    · refine bo_by (fun c3 => ?_) (fun c3 => ?_)
      · refine bo_tabIn (v := 2) (off := 51) hx 52 dX11_isFull_1 c3 (by decide) (by decide) (by decide) (by decide) ?_
        refine bo_aload_n hx dX11_isFull_52 rfl 0 rfl ?_
        refine gf_X11_166 hx dX11_isFull_53 ?_
        refine bo_iconst (v := 4) hx dX11_isFull_56 (by decide) ?_
        refine bo_icmp_ne hx 64 dX11_isFull_57 (by decide) ?_ ?_
        · refine bo_iconst (v := 0) hx dX11_isFull_64 (by decide) ?_
          exact bo_ret dX11_isFull_65 (fun _ => bo_b_0)
        · refine bo_iconst (v := 1) hx dX11_isFull_60 (by decide) ?_
          refine bo_goto hx 65 dX11_isFull_61 (by decide) ?_
          exact bo_ret dX11_isFull_65 (fun _ => bo_b_1)
      · refine bo_by (fun c4 => ?_) (fun c4 => ?_)
        · refine bo_tabIn (v := 3) (off := 65) hx 66 dX11_isFull_1 c4 (by decide) (by decide) (by decide) (by decide) ?_
          refine bo_aload_n hx dX11_isFull_66 rfl 0 rfl ?_
          refine gf_X11_169 hx dX11_isFull_67 ?_
          refine bo_bipush (v := 6) hx dX11_isFull_70 (by decide) ?_
          refine bo_icmp_ne hx 79 dX11_isFull_72 (by decide) ?_ ?_
          · refine bo_iconst (v := 0) hx dX11_isFull_79 (by decide) ?_
            exact bo_ret dX11_isFull_80 (fun _ => bo_b_0)
          · refine bo_iconst (v := 1) hx dX11_isFull_75 (by decide) ?_
            refine bo_goto hx 80 dX11_isFull_76 (by decide) ?_
            exact bo_ret dX11_isFull_80 (fun _ => bo_b_1)
        · refine bo_tabOut hx 81 dX11_isFull_1 (by have e1 : (p1).toInt ≠ 0 := bo_ne_n c1 (by decide); have e2 : (p1).toInt ≠ 1 := bo_ne_n c2 (by decide); have e3 : (p1).toInt ≠ 2 := bo_ne_n c3 (by decide); have e4 : (p1).toInt ≠ 3 := bo_ne_n c4 (by decide); omega) (by decide) ?_
          refine bo_aload_n hx dX11_isFull_81 rfl 0 rfl ?_
          refine gf_X11_172 hx dX11_isFull_82 ?_
          refine bo_iconst (v := 5) hx dX11_isFull_85 (by decide) ?_
          refine bo_icmp_ne hx 93 dX11_isFull_86 (by decide) ?_ ?_
          · refine bo_iconst (v := 0) hx dX11_isFull_93 (by decide) ?_
            exact bo_ret dX11_isFull_94 (fun _ => bo_b_0)
          · refine bo_iconst (v := 1) hx dX11_isFull_89 (by decide) ?_
            refine bo_goto hx 94 dX11_isFull_90 (by decide) ?_
            exact bo_ret dX11_isFull_94 (fun _ => bo_b_1)
theorem kX11_isFull (l : Launch) (g : bo_G) (hi : bo_inj g) (σ : bo_M) (p1 : Int32) : bo_CR l g yX11_isFull cX11_isFull 2 (some .boolean) 0 0 [.ref (g.2.2 135), .int p1] σ true (mX11_isFull σ p1) :=
  bo_metR rfl (Or.inr ⟨rfl, rfl⟩) (by decide) rfl hi (Nat.le_of_ble_eq_true rfl) (fun x e1 e2 hx => by subst e1; subst e2; exact bX11_isFull x hx σ p1)
-- BellRopeModel.takeBody
theorem dX11_takeBody_0 : decode cX11_takeBody 0 = .ok (.iload_n 1, 1) := by decide +kernel
theorem dX11_takeBody_32 : decode cX11_takeBody 32 = .ok (.aload_n 0, 1) := by decide +kernel
theorem dX11_takeBody_33 : decode cX11_takeBody 33 = .ok (.invokevirtual 175, 3) := by decide +kernel
theorem dX11_takeBody_36 : decode cX11_takeBody 36 = .ok (.ireturn, 1) := by decide +kernel
theorem dX11_takeBody_37 : decode cX11_takeBody 37 = .ok (.aload_n 0, 1) := by decide +kernel
theorem dX11_takeBody_38 : decode cX11_takeBody 38 = .ok (.invokevirtual 178, 3) := by decide +kernel
theorem dX11_takeBody_41 : decode cX11_takeBody 41 = .ok (.ireturn, 1) := by decide +kernel
theorem dX11_takeBody_42 : decode cX11_takeBody 42 = .ok (.aload_n 0, 1) := by decide +kernel
theorem dX11_takeBody_43 : decode cX11_takeBody 43 = .ok (.invokevirtual 181, 3) := by decide +kernel
theorem dX11_takeBody_46 : decode cX11_takeBody 46 = .ok (.ireturn, 1) := by decide +kernel
theorem dX11_takeBody_47 : decode cX11_takeBody 47 = .ok (.aload_n 0, 1) := by decide +kernel
theorem dX11_takeBody_48 : decode cX11_takeBody 48 = .ok (.invokevirtual 184, 3) := by decide +kernel
theorem dX11_takeBody_51 : decode cX11_takeBody 51 = .ok (.ireturn, 1) := by decide +kernel
theorem dX11_takeBody_52 : decode cX11_takeBody 52 = .ok (.aload_n 0, 1) := by decide +kernel
theorem dX11_takeBody_53 : decode cX11_takeBody 53 = .ok (.invokevirtual 187, 3) := by decide +kernel
theorem dX11_takeBody_56 : decode cX11_takeBody 56 = .ok (.ireturn, 1) := by decide +kernel
theorem dX11_takeBody_1 : decode cX11_takeBody 1 = .ok (.tableswitch 51 0 3 #[31, 36, 41, 46], 31) := by decide +kernel
theorem bX11_takeBody (x : bo_X) (hx : bo_OK x cX11_takeBody RX11 2 4 96) (σ : bo_M) (p1 : Int32) : bo_D x 0 [(0, .ref (bo_a x 135)), (1, .int p1)] [] σ (mX11_takeBody σ p1) (bo_Rw x cX11_takeBody false) := by
  unfold mX11_takeBody
  refine bo_iload_n hx dX11_takeBody_0 rfl 1 rfl ?_
  refine bo_by (fun c1 => ?_) (fun c1 => ?_)
  · refine bo_tabIn (v := 0) (off := 31) hx 32 dX11_takeBody_1 c1 (by decide) (by decide) (by decide) (by decide) ?_
    refine bo_aload_n hx dX11_takeBody_32 rfl 0 rfl ?_
    refine bo_goW (z := false) hx (fun rr hh => bo_runV (As := []) (S := []) hx dX11_takeBody_33 lk_X11_175 mi_X11_takeLaw bo_o_135 rfl rfl (kX11_takeLaw (bo_l x) (bo_g x) hx.inj σ rr hh) ⟨by decide, by decide⟩ rfl rfl (Nat.le_of_ble_eq_true rfl)) (fun a2 ha2 => ?_)
    exact bo_retw dX11_takeBody_36 (fun h => by cases h)
  · refine bo_by (fun c3 => ?_) (fun c3 => ?_)
    · refine bo_tabIn (v := 1) (off := 36) hx 37 dX11_takeBody_1 c3 (by decide) (by decide) (by decide) (by decide) ?_
      refine bo_aload_n hx dX11_takeBody_37 rfl 0 rfl ?_
      refine bo_goW (z := false) hx (fun rr hh => bo_runV (As := []) (S := []) hx dX11_takeBody_38 lk_X11_178 mi_X11_takeDrinker bo_o_135 rfl rfl (kX11_takeDrinker (bo_l x) (bo_g x) hx.inj σ rr hh) ⟨by decide, by decide⟩ rfl rfl (Nat.le_of_ble_eq_true rfl)) (fun a4 ha4 => ?_)
      exact bo_retw dX11_takeBody_41 (fun h => by cases h)
    · refine bo_by (fun c5 => ?_) (fun c5 => ?_)
      · refine bo_tabIn (v := 2) (off := 41) hx 42 dX11_takeBody_1 c5 (by decide) (by decide) (by decide) (by decide) ?_
        refine bo_aload_n hx dX11_takeBody_42 rfl 0 rfl ?_
        refine bo_goW (z := false) hx (fun rr hh => bo_runV (As := []) (S := []) hx dX11_takeBody_43 lk_X11_181 mi_X11_takeTime bo_o_135 rfl rfl (kX11_takeTime (bo_l x) (bo_g x) hx.inj σ rr hh) ⟨by decide, by decide⟩ rfl rfl (Nat.le_of_ble_eq_true rfl)) (fun a6 ha6 => ?_)
        exact bo_retw dX11_takeBody_46 (fun h => by cases h)
      · refine bo_by (fun c7 => ?_) (fun c7 => ?_)
        · refine bo_tabIn (v := 3) (off := 46) hx 47 dX11_takeBody_1 c7 (by decide) (by decide) (by decide) (by decide) ?_
          refine bo_aload_n hx dX11_takeBody_47 rfl 0 rfl ?_
          refine bo_goW (z := false) hx (fun rr hh => bo_runV (As := []) (S := []) hx dX11_takeBody_48 lk_X11_184 mi_X11_takeGoer bo_o_135 rfl rfl (kX11_takeGoer (bo_l x) (bo_g x) hx.inj σ rr hh) ⟨by decide, by decide⟩ rfl rfl (Nat.le_of_ble_eq_true rfl)) (fun a8 ha8 => ?_)
          exact bo_retw dX11_takeBody_51 (fun h => by cases h)
        · refine bo_tabOut hx 52 dX11_takeBody_1 (by have e1 : (p1).toInt ≠ 0 := bo_ne_n c1 (by decide); have e3 : (p1).toInt ≠ 1 := bo_ne_n c3 (by decide); have e5 : (p1).toInt ≠ 2 := bo_ne_n c5 (by decide); have e7 : (p1).toInt ≠ 3 := bo_ne_n c7 (by decide); omega) (by decide) ?_
          refine bo_aload_n hx dX11_takeBody_52 rfl 0 rfl ?_
          refine bo_goW (z := false) hx (fun rr hh => bo_runV (As := []) (S := []) hx dX11_takeBody_53 lk_X11_187 mi_X11_takeSignal bo_o_135 rfl rfl (kX11_takeSignal (bo_l x) (bo_g x) hx.inj σ rr hh) ⟨by decide, by decide⟩ rfl rfl (Nat.le_of_ble_eq_true rfl)) (fun a9 ha9 => ?_)
          exact bo_retw dX11_takeBody_56 (fun h => by cases h)
theorem kX11_takeBody (l : Launch) (g : bo_G) (hi : bo_inj g) (σ : bo_M) (p1 : Int32) : bo_CW l g yX11_takeBody cX11_takeBody 2 (some .int) 4 96 [.ref (g.2.2 135), .int p1] σ false (mX11_takeBody σ p1) :=
  bo_metW rfl (Or.inl ⟨rfl, rfl⟩) (by decide) rfl hi (Nat.le_of_ble_eq_true rfl) (fun x e1 e2 hx => by subst e1; subst e2; exact bX11_takeBody x hx σ p1)
-- BellRopeModel.takeClause
theorem dX11_takeClause_0 : decode cX11_takeClause 0 = .ok (.aload_n 0, 1) := by decide +kernel
theorem dX11_takeClause_1 : decode cX11_takeClause 1 = .ok (.aload_n 0, 1) := by decide +kernel
theorem dX11_takeClause_2 : decode cX11_takeClause 2 = .ok (.invokevirtual 135, 3) := by decide +kernel
theorem dX11_takeClause_5 : decode cX11_takeClause 5 = .ok (.invokevirtual 190, 3) := by decide +kernel
theorem dX11_takeClause_8 : decode cX11_takeClause 8 = .ok (.istore_n 1, 1) := by decide +kernel
theorem dX11_takeClause_9 : decode cX11_takeClause 9 = .ok (.iload_n 1, 1) := by decide +kernel
theorem dX11_takeClause_24 : decode cX11_takeClause 24 = .ok (.aload_n 0, 1) := by decide +kernel
theorem dX11_takeClause_25 : decode cX11_takeClause 25 = .ok (.iconst 1, 1) := by decide +kernel
theorem dX11_takeClause_26 : decode cX11_takeClause 26 = .ok (.aload_n 0, 1) := by decide +kernel
theorem dX11_takeClause_27 : decode cX11_takeClause 27 = .ok (.getfield 132, 3) := by decide +kernel
theorem dX11_takeClause_30 : decode cX11_takeClause 30 = .ok (.invokevirtual 143, 3) := by decide +kernel
theorem dX11_takeClause_33 : decode cX11_takeClause 33 = .ok (.ireturn, 1) := by decide +kernel
theorem dX11_takeClause_13 : decode cX11_takeClause 13 = .ok (.iload_n 1, 1) := by decide +kernel
theorem dX11_takeClause_34 : decode cX11_takeClause 34 = .ok (.aload_n 0, 1) := by decide +kernel
theorem dX11_takeClause_35 : decode cX11_takeClause 35 = .ok (.iload_n 1, 1) := by decide +kernel
theorem dX11_takeClause_36 : decode cX11_takeClause 36 = .ok (.invokevirtual 194, 3) := by decide +kernel
theorem dX11_takeClause_52 : decode cX11_takeClause 52 = .ok (.aload_n 0, 1) := by decide +kernel
theorem dX11_takeClause_53 : decode cX11_takeClause 53 = .ok (.dup, 1) := by decide +kernel
theorem dX11_takeClause_54 : decode cX11_takeClause 54 = .ok (.getfield 132, 3) := by decide +kernel
theorem dX11_takeClause_57 : decode cX11_takeClause 57 = .ok (.iconst 1, 1) := by decide +kernel
theorem dX11_takeClause_58 : decode cX11_takeClause 58 = .ok (.iadd, 1) := by decide +kernel
theorem dX11_takeClause_59 : decode cX11_takeClause 59 = .ok (.putfield 132, 3) := by decide +kernel
theorem dX11_takeClause_62 : decode cX11_takeClause 62 = .ok (.aload_n 0, 1) := by decide +kernel
theorem dX11_takeClause_63 : decode cX11_takeClause 63 = .ok (.iload_n 1, 1) := by decide +kernel
theorem dX11_takeClause_64 : decode cX11_takeClause 64 = .ok (.invokevirtual 198, 3) := by decide +kernel
theorem dX11_takeClause_67 : decode cX11_takeClause 67 = .ok (.istore_n 2, 1) := by decide +kernel
theorem dX11_takeClause_68 : decode cX11_takeClause 68 = .ok (.iload_n 2, 1) := by decide +kernel
theorem dX11_takeClause_91 : decode cX11_takeClause 91 = .ok (.aload_n 0, 1) := by decide +kernel
theorem dX11_takeClause_92 : decode cX11_takeClause 92 = .ok (.dup, 1) := by decide +kernel
theorem dX11_takeClause_93 : decode cX11_takeClause 93 = .ok (.getfield 132, 3) := by decide +kernel
theorem dX11_takeClause_96 : decode cX11_takeClause 96 = .ok (.iconst 1, 1) := by decide +kernel
theorem dX11_takeClause_97 : decode cX11_takeClause 97 = .ok (.iadd, 1) := by decide +kernel
theorem dX11_takeClause_98 : decode cX11_takeClause 98 = .ok (.putfield 132, 3) := by decide +kernel
theorem dX11_takeClause_101 : decode cX11_takeClause 101 = .ok (.iload_n 2, 1) := by decide +kernel
theorem dX11_takeClause_102 : decode cX11_takeClause 102 = .ok (.ireturn, 1) := by decide +kernel
theorem dX11_takeClause_72 : decode cX11_takeClause 72 = .ok (.aload_n 0, 1) := by decide +kernel
theorem dX11_takeClause_73 : decode cX11_takeClause 73 = .ok (.invokevirtual 135, 3) := by decide +kernel
theorem dX11_takeClause_76 : decode cX11_takeClause 76 = .ok (.bipush 59, 2) := by decide +kernel
theorem dX11_takeClause_81 : decode cX11_takeClause 81 = .ok (.aload_n 0, 1) := by decide +kernel
theorem dX11_takeClause_82 : decode cX11_takeClause 82 = .ok (.iconst 1, 1) := by decide +kernel
theorem dX11_takeClause_83 : decode cX11_takeClause 83 = .ok (.aload_n 0, 1) := by decide +kernel
theorem dX11_takeClause_84 : decode cX11_takeClause 84 = .ok (.getfield 132, 3) := by decide +kernel
theorem dX11_takeClause_87 : decode cX11_takeClause 87 = .ok (.invokevirtual 143, 3) := by decide +kernel
theorem dX11_takeClause_90 : decode cX11_takeClause 90 = .ok (.ireturn, 1) := by decide +kernel
theorem dX11_takeClause_78 : decode cX11_takeClause 78 = .ok (.if_icmp .eq 13, 3) := by decide +kernel
theorem dX11_takeClause_69 : decode cX11_takeClause 69 = .ok (.ifCond .ne 22, 3) := by decide +kernel
theorem dX11_takeClause_42 : decode cX11_takeClause 42 = .ok (.aload_n 0, 1) := by decide +kernel
theorem dX11_takeClause_43 : decode cX11_takeClause 43 = .ok (.iconst 3, 1) := by decide +kernel
theorem dX11_takeClause_44 : decode cX11_takeClause 44 = .ok (.aload_n 0, 1) := by decide +kernel
theorem dX11_takeClause_45 : decode cX11_takeClause 45 = .ok (.getfield 132, 3) := by decide +kernel
theorem dX11_takeClause_48 : decode cX11_takeClause 48 = .ok (.invokevirtual 143, 3) := by decide +kernel
theorem dX11_takeClause_51 : decode cX11_takeClause 51 = .ok (.ireturn, 1) := by decide +kernel
theorem dX11_takeClause_39 : decode cX11_takeClause 39 = .ok (.ifCond .eq 13, 3) := by decide +kernel
theorem dX11_takeClause_17 : decode cX11_takeClause 17 = .ok (.aload_n 0, 1) := by decide +kernel
theorem dX11_takeClause_18 : decode cX11_takeClause 18 = .ok (.getfield 156, 3) := by decide +kernel
theorem dX11_takeClause_21 : decode cX11_takeClause 21 = .ok (.ifCond .ne 13, 3) := by decide +kernel
theorem dX11_takeClause_14 : decode cX11_takeClause 14 = .ok (.ifCond .le 20, 3) := by decide +kernel
theorem dX11_takeClause_10 : decode cX11_takeClause 10 = .ok (.ifCond .lt 14, 3) := by decide +kernel
theorem bX11_takeClause (x : bo_X) (hx : bo_OK x cX11_takeClause RX11 3 5 117) (σ : bo_M) : bo_D x 0 [(0, .ref (bo_a x 135))] [] σ (mX11_takeClause σ) (bo_Rw x cX11_takeClause false) := by
  unfold mX11_takeClause
  refine bo_aload_n hx dX11_takeClause_0 rfl 0 rfl ?_
  refine bo_aload_n hx dX11_takeClause_1 rfl 0 rfl ?_
  refine bo_goW (z := false) hx (fun rr hh => bo_runV (As := []) (S := [.ref (bo_a x 135)]) hx dX11_takeClause_2 lk_X11_135 mi_X11_here bo_o_135 rfl rfl (kX11_here (bo_l x) (bo_g x) hx.inj σ rr hh) ⟨by decide, by decide⟩ rfl rfl (Nat.le_of_ble_eq_true rfl)) (fun a1 ha1 => ?_)
  refine bo_goR (z := false) hx (fun rr hh => bo_runV (As := [.int a1.1]) (S := []) hx dX11_takeClause_5 lk_X11_190 mi_X11_whichClause bo_o_135 rfl rfl (kX11_whichClause (bo_l x) (bo_g x) hx.inj a1.2 a1.1 rr hh) ⟨by decide, by decide⟩ rfl rfl (Nat.le_of_ble_eq_true rfl)) (fun v2 hv2 => ?_)
  refine bo_istore_n (L' := [(1, .int v2), (0, .ref (bo_a x 135))]) hx dX11_takeClause_8 rfl (by decide) rfl ?_
  refine bo_iload_n hx dX11_takeClause_9 rfl 0 rfl ?_
  refine bo_if_lt hx 24 dX11_takeClause_10 (by decide) ?_ ?_
  · refine bo_aload_n hx dX11_takeClause_24 rfl 1 rfl ?_
    refine bo_iconst (v := 1) hx dX11_takeClause_25 (by decide) ?_
    refine bo_aload_n hx dX11_takeClause_26 rfl 1 rfl ?_
    refine gf_X11_132 hx dX11_takeClause_27 ?_
    refine bo_goW (z := false) hx (fun rr hh => bo_runV (As := [.int 1, .int (a1.2 135 21)]) (S := []) hx dX11_takeClause_30 lk_X11_143 mi_X11_fails bo_o_135 rfl rfl (kX11_fails (bo_l x) (bo_g x) hx.inj a1.2 1 (a1.2 135 21) rr hh) ⟨by decide, by decide⟩ rfl rfl (Nat.le_of_ble_eq_true rfl)) (fun a3 ha3 => ?_)
    exact bo_retw dX11_takeClause_33 (fun h => by cases h)
  · refine bo_iload_n hx dX11_takeClause_13 rfl 0 rfl ?_
    refine bo_if_le hx 34 dX11_takeClause_14 (by decide) ?_ ?_
    · refine bo_aload_n hx dX11_takeClause_34 rfl 1 rfl ?_
      refine bo_iload_n hx dX11_takeClause_35 rfl 0 rfl ?_
      refine bo_goR (z := true) hx (fun rr hh => bo_runV (As := [.int v2]) (S := []) hx dX11_takeClause_36 lk_X11_194 mi_X11_isFull bo_o_135 rfl rfl (kX11_isFull (bo_l x) (bo_g x) hx.inj a1.2 v2 rr hh) ⟨by decide, by decide⟩ rfl rfl (Nat.le_of_ble_eq_true rfl)) (fun v4 hv4 => ?_)
      refine bo_if_eq hx 52 dX11_takeClause_39 (by decide) ?_ ?_
      · refine bo_aload_n hx dX11_takeClause_52 rfl 1 rfl ?_
        refine bo_dup hx dX11_takeClause_53 rfl ?_
        refine gf_X11_132 hx dX11_takeClause_54 ?_
        refine bo_iconst (v := 1) hx dX11_takeClause_57 (by decide) ?_
        refine bo_iadd hx dX11_takeClause_58 ?_
        refine pf_X11_132 hx dX11_takeClause_59 (fun σ5 => ?_)
        refine bo_aload_n hx dX11_takeClause_62 rfl 1 rfl ?_
        refine bo_iload_n hx dX11_takeClause_63 rfl 0 rfl ?_
        refine bo_goW (z := false) hx (fun rr hh => bo_runV (As := [.int v2]) (S := []) hx dX11_takeClause_64 lk_X11_198 mi_X11_takeBody bo_o_135 rfl rfl (kX11_takeBody (bo_l x) (bo_g x) hx.inj σ5 v2 rr hh) ⟨by decide, by decide⟩ rfl rfl (Nat.le_of_ble_eq_true rfl)) (fun a6 ha6 => ?_)
        refine bo_istore_n (L' := [(2, .int a6.1), (1, .int v2), (0, .ref (bo_a x 135))]) hx dX11_takeClause_67 rfl (by decide) rfl ?_
        refine bo_iload_n hx dX11_takeClause_68 rfl 0 rfl ?_
        refine bo_if_ne hx 91 dX11_takeClause_69 (by decide) ?_ ?_
        · refine bo_aload_n hx dX11_takeClause_91 rfl 2 rfl ?_
          refine bo_dup hx dX11_takeClause_92 rfl ?_
          refine gf_X11_132 hx dX11_takeClause_93 ?_
          refine bo_iconst (v := 1) hx dX11_takeClause_96 (by decide) ?_
          refine bo_iadd hx dX11_takeClause_97 ?_
          refine pf_X11_132 hx dX11_takeClause_98 (fun σ7 => ?_)
          refine bo_iload_n hx dX11_takeClause_101 rfl 0 rfl ?_
          exact bo_retw dX11_takeClause_102 (fun h => by cases h)
        · refine bo_aload_n hx dX11_takeClause_72 rfl 2 rfl ?_
          refine bo_goW (z := false) hx (fun rr hh => bo_runV (As := []) (S := []) hx dX11_takeClause_73 lk_X11_135 mi_X11_here bo_o_135 rfl rfl (kX11_here (bo_l x) (bo_g x) hx.inj a6.2 rr hh) ⟨by decide, by decide⟩ rfl rfl (Nat.le_of_ble_eq_true rfl)) (fun a8 ha8 => ?_)
          refine bo_bipush (v := 59) hx dX11_takeClause_76 (by decide) ?_
          refine bo_icmp_eq hx 91 dX11_takeClause_78 (by decide) ?_ ?_
          · refine bo_aload_n hx dX11_takeClause_91 rfl 2 rfl ?_
            refine bo_dup hx dX11_takeClause_92 rfl ?_
            refine gf_X11_132 hx dX11_takeClause_93 ?_
            refine bo_iconst (v := 1) hx dX11_takeClause_96 (by decide) ?_
            refine bo_iadd hx dX11_takeClause_97 ?_
            refine pf_X11_132 hx dX11_takeClause_98 (fun σ9 => ?_)
            refine bo_iload_n hx dX11_takeClause_101 rfl 0 rfl ?_
            exact bo_retw dX11_takeClause_102 (fun h => by cases h)
          · refine bo_aload_n hx dX11_takeClause_81 rfl 2 rfl ?_
            refine bo_iconst (v := 1) hx dX11_takeClause_82 (by decide) ?_
            refine bo_aload_n hx dX11_takeClause_83 rfl 2 rfl ?_
            refine gf_X11_132 hx dX11_takeClause_84 ?_
            refine bo_goW (z := false) hx (fun rr hh => bo_runV (As := [.int 1, .int (a8.2 135 21)]) (S := []) hx dX11_takeClause_87 lk_X11_143 mi_X11_fails bo_o_135 rfl rfl (kX11_fails (bo_l x) (bo_g x) hx.inj a8.2 1 (a8.2 135 21) rr hh) ⟨by decide, by decide⟩ rfl rfl (Nat.le_of_ble_eq_true rfl)) (fun a10 ha10 => ?_)
            exact bo_retw dX11_takeClause_90 (fun h => by cases h)
      · refine bo_aload_n hx dX11_takeClause_42 rfl 1 rfl ?_
        refine bo_iconst (v := 3) hx dX11_takeClause_43 (by decide) ?_
        refine bo_aload_n hx dX11_takeClause_44 rfl 1 rfl ?_
        refine gf_X11_132 hx dX11_takeClause_45 ?_
        refine bo_goW (z := false) hx (fun rr hh => bo_runV (As := [.int 3, .int (a1.2 135 21)]) (S := []) hx dX11_takeClause_48 lk_X11_143 mi_X11_fails bo_o_135 rfl rfl (kX11_fails (bo_l x) (bo_g x) hx.inj a1.2 3 (a1.2 135 21) rr hh) ⟨by decide, by decide⟩ rfl rfl (Nat.le_of_ble_eq_true rfl)) (fun a11 ha11 => ?_)
        exact bo_retw dX11_takeClause_51 (fun h => by cases h)
    · refine bo_aload_n hx dX11_takeClause_17 rfl 1 rfl ?_
      refine gf_X11_156 hx dX11_takeClause_18 ?_
      refine bo_if_ne hx 34 dX11_takeClause_21 (by decide) ?_ ?_
      · refine bo_aload_n hx dX11_takeClause_34 rfl 1 rfl ?_
        refine bo_iload_n hx dX11_takeClause_35 rfl 0 rfl ?_
        refine bo_goR (z := true) hx (fun rr hh => bo_runV (As := [.int v2]) (S := []) hx dX11_takeClause_36 lk_X11_194 mi_X11_isFull bo_o_135 rfl rfl (kX11_isFull (bo_l x) (bo_g x) hx.inj a1.2 v2 rr hh) ⟨by decide, by decide⟩ rfl rfl (Nat.le_of_ble_eq_true rfl)) (fun v12 hv12 => ?_)
        refine bo_if_eq hx 52 dX11_takeClause_39 (by decide) ?_ ?_
        · refine bo_aload_n hx dX11_takeClause_52 rfl 1 rfl ?_
          refine bo_dup hx dX11_takeClause_53 rfl ?_
          refine gf_X11_132 hx dX11_takeClause_54 ?_
          refine bo_iconst (v := 1) hx dX11_takeClause_57 (by decide) ?_
          refine bo_iadd hx dX11_takeClause_58 ?_
          refine pf_X11_132 hx dX11_takeClause_59 (fun σ13 => ?_)
          refine bo_aload_n hx dX11_takeClause_62 rfl 1 rfl ?_
          refine bo_iload_n hx dX11_takeClause_63 rfl 0 rfl ?_
          refine bo_goW (z := false) hx (fun rr hh => bo_runV (As := [.int v2]) (S := []) hx dX11_takeClause_64 lk_X11_198 mi_X11_takeBody bo_o_135 rfl rfl (kX11_takeBody (bo_l x) (bo_g x) hx.inj σ13 v2 rr hh) ⟨by decide, by decide⟩ rfl rfl (Nat.le_of_ble_eq_true rfl)) (fun a14 ha14 => ?_)
          refine bo_istore_n (L' := [(2, .int a14.1), (1, .int v2), (0, .ref (bo_a x 135))]) hx dX11_takeClause_67 rfl (by decide) rfl ?_
          refine bo_iload_n hx dX11_takeClause_68 rfl 0 rfl ?_
          refine bo_if_ne hx 91 dX11_takeClause_69 (by decide) ?_ ?_
          · refine bo_aload_n hx dX11_takeClause_91 rfl 2 rfl ?_
            refine bo_dup hx dX11_takeClause_92 rfl ?_
            refine gf_X11_132 hx dX11_takeClause_93 ?_
            refine bo_iconst (v := 1) hx dX11_takeClause_96 (by decide) ?_
            refine bo_iadd hx dX11_takeClause_97 ?_
            refine pf_X11_132 hx dX11_takeClause_98 (fun σ15 => ?_)
            refine bo_iload_n hx dX11_takeClause_101 rfl 0 rfl ?_
            exact bo_retw dX11_takeClause_102 (fun h => by cases h)
          · refine bo_aload_n hx dX11_takeClause_72 rfl 2 rfl ?_
            refine bo_goW (z := false) hx (fun rr hh => bo_runV (As := []) (S := []) hx dX11_takeClause_73 lk_X11_135 mi_X11_here bo_o_135 rfl rfl (kX11_here (bo_l x) (bo_g x) hx.inj a14.2 rr hh) ⟨by decide, by decide⟩ rfl rfl (Nat.le_of_ble_eq_true rfl)) (fun a16 ha16 => ?_)
            refine bo_bipush (v := 59) hx dX11_takeClause_76 (by decide) ?_
            refine bo_icmp_eq hx 91 dX11_takeClause_78 (by decide) ?_ ?_
            · refine bo_aload_n hx dX11_takeClause_91 rfl 2 rfl ?_
              refine bo_dup hx dX11_takeClause_92 rfl ?_
              refine gf_X11_132 hx dX11_takeClause_93 ?_
              refine bo_iconst (v := 1) hx dX11_takeClause_96 (by decide) ?_
              refine bo_iadd hx dX11_takeClause_97 ?_
              refine pf_X11_132 hx dX11_takeClause_98 (fun σ17 => ?_)
              refine bo_iload_n hx dX11_takeClause_101 rfl 0 rfl ?_
              exact bo_retw dX11_takeClause_102 (fun h => by cases h)
            · refine bo_aload_n hx dX11_takeClause_81 rfl 2 rfl ?_
              refine bo_iconst (v := 1) hx dX11_takeClause_82 (by decide) ?_
              refine bo_aload_n hx dX11_takeClause_83 rfl 2 rfl ?_
              refine gf_X11_132 hx dX11_takeClause_84 ?_
              refine bo_goW (z := false) hx (fun rr hh => bo_runV (As := [.int 1, .int (a16.2 135 21)]) (S := []) hx dX11_takeClause_87 lk_X11_143 mi_X11_fails bo_o_135 rfl rfl (kX11_fails (bo_l x) (bo_g x) hx.inj a16.2 1 (a16.2 135 21) rr hh) ⟨by decide, by decide⟩ rfl rfl (Nat.le_of_ble_eq_true rfl)) (fun a18 ha18 => ?_)
              exact bo_retw dX11_takeClause_90 (fun h => by cases h)
        · refine bo_aload_n hx dX11_takeClause_42 rfl 1 rfl ?_
          refine bo_iconst (v := 3) hx dX11_takeClause_43 (by decide) ?_
          refine bo_aload_n hx dX11_takeClause_44 rfl 1 rfl ?_
          refine gf_X11_132 hx dX11_takeClause_45 ?_
          refine bo_goW (z := false) hx (fun rr hh => bo_runV (As := [.int 3, .int (a1.2 135 21)]) (S := []) hx dX11_takeClause_48 lk_X11_143 mi_X11_fails bo_o_135 rfl rfl (kX11_fails (bo_l x) (bo_g x) hx.inj a1.2 3 (a1.2 135 21) rr hh) ⟨by decide, by decide⟩ rfl rfl (Nat.le_of_ble_eq_true rfl)) (fun a19 ha19 => ?_)
          exact bo_retw dX11_takeClause_51 (fun h => by cases h)
      · refine bo_aload_n hx dX11_takeClause_24 rfl 1 rfl ?_
        refine bo_iconst (v := 1) hx dX11_takeClause_25 (by decide) ?_
        refine bo_aload_n hx dX11_takeClause_26 rfl 1 rfl ?_
        refine gf_X11_132 hx dX11_takeClause_27 ?_
        refine bo_goW (z := false) hx (fun rr hh => bo_runV (As := [.int 1, .int (a1.2 135 21)]) (S := []) hx dX11_takeClause_30 lk_X11_143 mi_X11_fails bo_o_135 rfl rfl (kX11_fails (bo_l x) (bo_g x) hx.inj a1.2 1 (a1.2 135 21) rr hh) ⟨by decide, by decide⟩ rfl rfl (Nat.le_of_ble_eq_true rfl)) (fun a20 ha20 => ?_)
        exact bo_retw dX11_takeClause_33 (fun h => by cases h)
theorem kX11_takeClause (l : Launch) (g : bo_G) (hi : bo_inj g) (σ : bo_M) : bo_CW l g yX11_takeClause cX11_takeClause 3 (some .int) 5 117 [.ref (g.2.2 135)] σ false (mX11_takeClause σ) :=
  bo_metW rfl (Or.inl ⟨rfl, rfl⟩) (by decide) rfl hi (Nat.le_of_ble_eq_true rfl) (fun x e1 e2 hx => by subst e1; subst e2; exact bX11_takeClause x hx σ)
-- BellRopeModel.copyRow
theorem dX11_copyRow_0 : decode cX11_copyRow 0 = .ok (.iconst 0, 1) := by decide +kernel
theorem dX11_copyRow_1 : decode cX11_copyRow 1 = .ok (.istore_n 3, 1) := by decide +kernel
theorem dX11_copyRow_2 : decode cX11_copyRow 2 = .ok (.iload_n 3, 1) := by decide +kernel
theorem dX11_copyRow_3 : decode cX11_copyRow 3 = .ok (.iload_n 2, 1) := by decide +kernel
theorem dX11_copyRow_7 : decode cX11_copyRow 7 = .ok (.aload_n 1, 1) := by decide +kernel
theorem dX11_copyRow_8 : decode cX11_copyRow 8 = .ok (.iload_n 3, 1) := by decide +kernel
theorem dX11_copyRow_9 : decode cX11_copyRow 9 = .ok (.aload_n 0, 1) := by decide +kernel
theorem dX11_copyRow_10 : decode cX11_copyRow 10 = .ok (.iload_n 3, 1) := by decide +kernel
theorem dX11_copyRow_11 : decode cX11_copyRow 11 = .ok (.iaload, 1) := by decide +kernel
theorem dX11_copyRow_12 : decode cX11_copyRow 12 = .ok (.iastore, 1) := by decide +kernel
theorem dX11_copyRow_13 : decode cX11_copyRow 13 = .ok (.iinc 3 1, 3) := by decide +kernel
theorem dX11_copyRow_16 : decode cX11_copyRow 16 = .ok (.goto (-14), 3) := by decide +kernel
theorem dX11_copyRow_4 : decode cX11_copyRow 4 = .ok (.if_icmp .ge 15, 3) := by decide +kernel
theorem dX11_copyRow_19 : decode cX11_copyRow 19 = .ok (.return_, 1) := by decide +kernel
theorem lX11_copyRow_L2 (x : bo_X) (hx : bo_OK x cX11_copyRow RX11 4 0 0) (n0 : Nat) (f0 : Nat) (n1 : Nat) (f1 : Nat) (f2 : Int32) (hf0 : bo_isA f0 n0) (hf1 : bo_isA f1 n1) : ∀ (n : Nat) (w3 : Int32) (σ : bo_M), bo_D x 2 [(0, .ref (bo_a x f0)), (1, .ref (bo_a x f1)), (2, .int f2), (3, .int w3)] [] σ (mX11_copyRow_L2 n0 f0 n1 f1 f2 n w3 σ) (fun a => bo_N x 19 [] [] a) := by
  intro n
  induction n with
  | zero => intro w3 σ; exact bo_none
  | succ n ih =>
    intro w3 σ
    rw [mX11_copyRow_L2]
    refine bo_iload_n hx dX11_copyRow_2 rfl 3 rfl ?_
    refine bo_iload_n hx dX11_copyRow_3 rfl 2 rfl ?_
    refine bo_icmp_ge hx 19 dX11_copyRow_4 (by decide) ?_ ?_
    · refine bo_sub (L' := []) [] rfl ?_
      exact bo_arr (fun h => h)
    · refine bo_aload_n hx dX11_copyRow_7 rfl 1 rfl ?_
      refine bo_iload_n hx dX11_copyRow_8 rfl 3 rfl ?_
      refine bo_aload_n hx dX11_copyRow_9 rfl 0 rfl ?_
      refine bo_iload_n hx dX11_copyRow_10 rfl 3 rfl ?_
      refine bo_iald hx hf0 dX11_copyRow_11 (fun v1 => ?_)
      refine bo_iast hx hf1 dX11_copyRow_12 (fun σ2 => ?_)
      refine bo_iinc (L' := [(3, .int (w3 + 1)), (0, .ref (bo_a x f0)), (1, .ref (bo_a x f1)), (2, .int f2)]) (w := (w3 + 1)) hx dX11_copyRow_13 3 rfl rfl (by decide) rfl ?_
      refine bo_goto hx 2 dX11_copyRow_16 (by decide) ?_
      refine bo_sub (L' := [(0, .ref (bo_a x f0)), (1, .ref (bo_a x f1)), (2, .int f2), (3, .int (w3 + 1))]) [1, 2, 3, 0] rfl ?_
      exact ih (w3 + 1) σ2
theorem bX11_copyRow (x : bo_X) (hx : bo_OK x cX11_copyRow RX11 4 0 0) (σ : bo_M) (n0 r0 : Nat) (n1 r1 : Nat) (p2 : Int32) (hr0 : bo_isA r0 n0) (hr1 : bo_isA r1 n1) : bo_D x 0 [(0, .ref (bo_a x r0)), (1, .ref (bo_a x r1)), (2, .int p2)] [] σ (mX11_copyRow σ n0 r0 n1 r1 p2) (bo_Rv x cX11_copyRow) := by
  unfold mX11_copyRow
  refine bo_iconst (v := 0) hx dX11_copyRow_0 (by decide) ?_
  refine bo_istore_n (L' := [(3, .int 0), (0, .ref (bo_a x r0)), (1, .ref (bo_a x r1)), (2, .int p2)]) hx dX11_copyRow_1 rfl (by decide) rfl ?_
  refine bo_sub (L' := [(0, .ref (bo_a x r0)), (1, .ref (bo_a x r1)), (2, .int p2), (3, .int 0)]) [1, 2, 3, 0] rfl ?_
  refine bo_seq 19 (fun a => []) (fun a => []) (fun a => a) (lX11_copyRow_L2 x hx n0 r0 n1 r1 p2 hr0 hr1 bo_fuel 0 σ) (fun a3 => ?_)
  exact bo_retv dX11_copyRow_19
theorem kX11_copyRow (l : Launch) (g : bo_G) (hi : bo_inj g) (σ : bo_M) (n0 r0 : Nat) (n1 r1 : Nat) (p2 : Int32) (hr0 : bo_isA r0 n0) (hr1 : bo_isA r1 n1) : bo_CV l g yX11_copyRow cX11_copyRow 4 none 0 0 [.ref (g.2.2 r0), .ref (g.2.2 r1), .int p2] σ (mX11_copyRow σ n0 r0 n1 r1 p2) :=
  bo_metV rfl  (by decide) rfl hi (Nat.le_of_ble_eq_true rfl) (fun x e1 e2 hx => by subst e1; subst e2; exact bX11_copyRow x hx σ n0 r0 n1 r1 p2 hr0 hr1)
-- BellRopeModel.takeRead
theorem dX11_takeRead_0 : decode cX11_takeRead 0 = .ok (.aload_n 0, 1) := by decide +kernel
theorem dX11_takeRead_1 : decode cX11_takeRead 1 = .ok (.aload_n 0, 1) := by decide +kernel
theorem dX11_takeRead_2 : decode cX11_takeRead 2 = .ok (.getfield 156, 3) := by decide +kernel
theorem dX11_takeRead_5 : decode cX11_takeRead 5 = .ok (.putfield 111, 3) := by decide +kernel
theorem dX11_takeRead_8 : decode cX11_takeRead 8 = .ok (.aload_n 0, 1) := by decide +kernel
theorem dX11_takeRead_9 : decode cX11_takeRead 9 = .ok (.aload_n 0, 1) := by decide +kernel
theorem dX11_takeRead_10 : decode cX11_takeRead 10 = .ok (.getfield 156, 3) := by decide +kernel
theorem dX11_takeRead_25 : decode cX11_takeRead 25 = .ok (.iconst 0, 1) := by decide +kernel
theorem dX11_takeRead_16 : decode cX11_takeRead 16 = .ok (.aload_n 0, 1) := by decide +kernel
theorem dX11_takeRead_17 : decode cX11_takeRead 17 = .ok (.getfield 44, 3) := by decide +kernel
theorem dX11_takeRead_20 : decode cX11_takeRead 20 = .ok (.iconst 0, 1) := by decide +kernel
theorem dX11_takeRead_21 : decode cX11_takeRead 21 = .ok (.iaload, 1) := by decide +kernel
theorem dX11_takeRead_22 : decode cX11_takeRead 22 = .ok (.goto 4, 3) := by decide +kernel
theorem dX11_takeRead_13 : decode cX11_takeRead 13 = .ok (.ifCond .eq 12, 3) := by decide +kernel
theorem dX11_takeRead_26 : decode cX11_takeRead 26 = .ok (.putfield 201, 3) := by decide +kernel
theorem dX11_takeRead_29 : decode cX11_takeRead 29 = .ok (.aload_n 0, 1) := by decide +kernel
theorem dX11_takeRead_30 : decode cX11_takeRead 30 = .ok (.aload_n 0, 1) := by decide +kernel
theorem dX11_takeRead_31 : decode cX11_takeRead 31 = .ok (.getfield 156, 3) := by decide +kernel
theorem dX11_takeRead_46 : decode cX11_takeRead 46 = .ok (.iconst 0, 1) := by decide +kernel
theorem dX11_takeRead_37 : decode cX11_takeRead 37 = .ok (.aload_n 0, 1) := by decide +kernel
theorem dX11_takeRead_38 : decode cX11_takeRead 38 = .ok (.getfield 44, 3) := by decide +kernel
theorem dX11_takeRead_41 : decode cX11_takeRead 41 = .ok (.iconst 1, 1) := by decide +kernel
theorem dX11_takeRead_42 : decode cX11_takeRead 42 = .ok (.iaload, 1) := by decide +kernel
theorem dX11_takeRead_43 : decode cX11_takeRead 43 = .ok (.goto 4, 3) := by decide +kernel
theorem dX11_takeRead_34 : decode cX11_takeRead 34 = .ok (.ifCond .eq 12, 3) := by decide +kernel
theorem dX11_takeRead_47 : decode cX11_takeRead 47 = .ok (.putfield 204, 3) := by decide +kernel
theorem dX11_takeRead_50 : decode cX11_takeRead 50 = .ok (.aload_n 0, 1) := by decide +kernel
theorem dX11_takeRead_51 : decode cX11_takeRead 51 = .ok (.aload_n 0, 1) := by decide +kernel
theorem dX11_takeRead_52 : decode cX11_takeRead 52 = .ok (.getfield 156, 3) := by decide +kernel
theorem dX11_takeRead_67 : decode cX11_takeRead 67 = .ok (.iconst 0, 1) := by decide +kernel
theorem dX11_takeRead_58 : decode cX11_takeRead 58 = .ok (.aload_n 0, 1) := by decide +kernel
theorem dX11_takeRead_59 : decode cX11_takeRead 59 = .ok (.getfield 44, 3) := by decide +kernel
theorem dX11_takeRead_62 : decode cX11_takeRead 62 = .ok (.iconst 2, 1) := by decide +kernel
theorem dX11_takeRead_63 : decode cX11_takeRead 63 = .ok (.iaload, 1) := by decide +kernel
theorem dX11_takeRead_64 : decode cX11_takeRead 64 = .ok (.goto 4, 3) := by decide +kernel
theorem dX11_takeRead_55 : decode cX11_takeRead 55 = .ok (.ifCond .eq 12, 3) := by decide +kernel
theorem dX11_takeRead_68 : decode cX11_takeRead 68 = .ok (.putfield 207, 3) := by decide +kernel
theorem dX11_takeRead_71 : decode cX11_takeRead 71 = .ok (.aload_n 0, 1) := by decide +kernel
theorem dX11_takeRead_72 : decode cX11_takeRead 72 = .ok (.aload_n 0, 1) := by decide +kernel
theorem dX11_takeRead_73 : decode cX11_takeRead 73 = .ok (.getfield 163, 3) := by decide +kernel
theorem dX11_takeRead_76 : decode cX11_takeRead 76 = .ok (.putfield 115, 3) := by decide +kernel
theorem dX11_takeRead_79 : decode cX11_takeRead 79 = .ok (.aload_n 0, 1) := by decide +kernel
theorem dX11_takeRead_80 : decode cX11_takeRead 80 = .ok (.aload_n 0, 1) := by decide +kernel
theorem dX11_takeRead_81 : decode cX11_takeRead 81 = .ok (.getfield 166, 3) := by decide +kernel
theorem dX11_takeRead_84 : decode cX11_takeRead 84 = .ok (.putfield 210, 3) := by decide +kernel
theorem dX11_takeRead_87 : decode cX11_takeRead 87 = .ok (.aload_n 0, 1) := by decide +kernel
theorem dX11_takeRead_88 : decode cX11_takeRead 88 = .ok (.aload_n 0, 1) := by decide +kernel
theorem dX11_takeRead_89 : decode cX11_takeRead 89 = .ok (.getfield 169, 3) := by decide +kernel
theorem dX11_takeRead_92 : decode cX11_takeRead 92 = .ok (.putfield 122, 3) := by decide +kernel
theorem dX11_takeRead_95 : decode cX11_takeRead 95 = .ok (.aload_n 0, 1) := by decide +kernel
theorem dX11_takeRead_96 : decode cX11_takeRead 96 = .ok (.aload_n 0, 1) := by decide +kernel
theorem dX11_takeRead_97 : decode cX11_takeRead 97 = .ok (.getfield 172, 3) := by decide +kernel
theorem dX11_takeRead_100 : decode cX11_takeRead 100 = .ok (.putfield 213, 3) := by decide +kernel
theorem dX11_takeRead_103 : decode cX11_takeRead 103 = .ok (.aload_n 0, 1) := by decide +kernel
theorem dX11_takeRead_104 : decode cX11_takeRead 104 = .ok (.getfield 47, 3) := by decide +kernel
theorem dX11_takeRead_107 : decode cX11_takeRead 107 = .ok (.aload_n 0, 1) := by decide +kernel
theorem dX11_takeRead_108 : decode cX11_takeRead 108 = .ok (.getfield 7, 3) := by decide +kernel
theorem dX11_takeRead_111 : decode cX11_takeRead 111 = .ok (.aload_n 0, 1) := by decide +kernel
theorem dX11_takeRead_112 : decode cX11_takeRead 112 = .ok (.getfield 115, 3) := by decide +kernel
theorem dX11_takeRead_115 : decode cX11_takeRead 115 = .ok (.invokestatic 216, 3) := by decide +kernel
theorem dX11_takeRead_118 : decode cX11_takeRead 118 = .ok (.aload_n 0, 1) := by decide +kernel
theorem dX11_takeRead_119 : decode cX11_takeRead 119 = .ok (.getfield 50, 3) := by decide +kernel
theorem dX11_takeRead_122 : decode cX11_takeRead 122 = .ok (.aload_n 0, 1) := by decide +kernel
theorem dX11_takeRead_123 : decode cX11_takeRead 123 = .ok (.getfield 13, 3) := by decide +kernel
theorem dX11_takeRead_126 : decode cX11_takeRead 126 = .ok (.aload_n 0, 1) := by decide +kernel
theorem dX11_takeRead_127 : decode cX11_takeRead 127 = .ok (.getfield 115, 3) := by decide +kernel
theorem dX11_takeRead_130 : decode cX11_takeRead 130 = .ok (.invokestatic 216, 3) := by decide +kernel
theorem dX11_takeRead_133 : decode cX11_takeRead 133 = .ok (.aload_n 0, 1) := by decide +kernel
theorem dX11_takeRead_134 : decode cX11_takeRead 134 = .ok (.getfield 53, 3) := by decide +kernel
theorem dX11_takeRead_137 : decode cX11_takeRead 137 = .ok (.aload_n 0, 1) := by decide +kernel
theorem dX11_takeRead_138 : decode cX11_takeRead 138 = .ok (.getfield 16, 3) := by decide +kernel
theorem dX11_takeRead_141 : decode cX11_takeRead 141 = .ok (.aload_n 0, 1) := by decide +kernel
theorem dX11_takeRead_142 : decode cX11_takeRead 142 = .ok (.getfield 115, 3) := by decide +kernel
theorem dX11_takeRead_145 : decode cX11_takeRead 145 = .ok (.invokestatic 216, 3) := by decide +kernel
theorem dX11_takeRead_148 : decode cX11_takeRead 148 = .ok (.aload_n 0, 1) := by decide +kernel
theorem dX11_takeRead_149 : decode cX11_takeRead 149 = .ok (.getfield 56, 3) := by decide +kernel
theorem dX11_takeRead_152 : decode cX11_takeRead 152 = .ok (.aload_n 0, 1) := by decide +kernel
theorem dX11_takeRead_153 : decode cX11_takeRead 153 = .ok (.getfield 19, 3) := by decide +kernel
theorem dX11_takeRead_156 : decode cX11_takeRead 156 = .ok (.aload_n 0, 1) := by decide +kernel
theorem dX11_takeRead_157 : decode cX11_takeRead 157 = .ok (.getfield 210, 3) := by decide +kernel
theorem dX11_takeRead_160 : decode cX11_takeRead 160 = .ok (.invokestatic 216, 3) := by decide +kernel
theorem dX11_takeRead_163 : decode cX11_takeRead 163 = .ok (.aload_n 0, 1) := by decide +kernel
theorem dX11_takeRead_164 : decode cX11_takeRead 164 = .ok (.getfield 59, 3) := by decide +kernel
theorem dX11_takeRead_167 : decode cX11_takeRead 167 = .ok (.aload_n 0, 1) := by decide +kernel
theorem dX11_takeRead_168 : decode cX11_takeRead 168 = .ok (.getfield 22, 3) := by decide +kernel
theorem dX11_takeRead_171 : decode cX11_takeRead 171 = .ok (.aload_n 0, 1) := by decide +kernel
theorem dX11_takeRead_172 : decode cX11_takeRead 172 = .ok (.getfield 210, 3) := by decide +kernel
theorem dX11_takeRead_175 : decode cX11_takeRead 175 = .ok (.invokestatic 216, 3) := by decide +kernel
theorem dX11_takeRead_178 : decode cX11_takeRead 178 = .ok (.aload_n 0, 1) := by decide +kernel
theorem dX11_takeRead_179 : decode cX11_takeRead 179 = .ok (.getfield 62, 3) := by decide +kernel
theorem dX11_takeRead_182 : decode cX11_takeRead 182 = .ok (.aload_n 0, 1) := by decide +kernel
theorem dX11_takeRead_183 : decode cX11_takeRead 183 = .ok (.getfield 25, 3) := by decide +kernel
theorem dX11_takeRead_186 : decode cX11_takeRead 186 = .ok (.aload_n 0, 1) := by decide +kernel
theorem dX11_takeRead_187 : decode cX11_takeRead 187 = .ok (.getfield 122, 3) := by decide +kernel
theorem dX11_takeRead_190 : decode cX11_takeRead 190 = .ok (.invokestatic 216, 3) := by decide +kernel
theorem dX11_takeRead_193 : decode cX11_takeRead 193 = .ok (.aload_n 0, 1) := by decide +kernel
theorem dX11_takeRead_194 : decode cX11_takeRead 194 = .ok (.getfield 65, 3) := by decide +kernel
theorem dX11_takeRead_197 : decode cX11_takeRead 197 = .ok (.aload_n 0, 1) := by decide +kernel
theorem dX11_takeRead_198 : decode cX11_takeRead 198 = .ok (.getfield 28, 3) := by decide +kernel
theorem dX11_takeRead_201 : decode cX11_takeRead 201 = .ok (.aload_n 0, 1) := by decide +kernel
theorem dX11_takeRead_202 : decode cX11_takeRead 202 = .ok (.getfield 122, 3) := by decide +kernel
theorem dX11_takeRead_205 : decode cX11_takeRead 205 = .ok (.invokestatic 216, 3) := by decide +kernel
theorem dX11_takeRead_208 : decode cX11_takeRead 208 = .ok (.aload_n 0, 1) := by decide +kernel
theorem dX11_takeRead_209 : decode cX11_takeRead 209 = .ok (.getfield 68, 3) := by decide +kernel
theorem dX11_takeRead_212 : decode cX11_takeRead 212 = .ok (.aload_n 0, 1) := by decide +kernel
theorem dX11_takeRead_213 : decode cX11_takeRead 213 = .ok (.getfield 31, 3) := by decide +kernel
theorem dX11_takeRead_216 : decode cX11_takeRead 216 = .ok (.aload_n 0, 1) := by decide +kernel
theorem dX11_takeRead_217 : decode cX11_takeRead 217 = .ok (.getfield 213, 3) := by decide +kernel
theorem dX11_takeRead_220 : decode cX11_takeRead 220 = .ok (.invokestatic 216, 3) := by decide +kernel
theorem dX11_takeRead_223 : decode cX11_takeRead 223 = .ok (.iconst 0, 1) := by decide +kernel
theorem dX11_takeRead_224 : decode cX11_takeRead 224 = .ok (.istore_n 1, 1) := by decide +kernel
theorem dX11_takeRead_225 : decode cX11_takeRead 225 = .ok (.iload_n 1, 1) := by decide +kernel
theorem dX11_takeRead_226 : decode cX11_takeRead 226 = .ok (.bipush 107, 2) := by decide +kernel
theorem dX11_takeRead_231 : decode cX11_takeRead 231 = .ok (.aload_n 0, 1) := by decide +kernel
theorem dX11_takeRead_232 : decode cX11_takeRead 232 = .ok (.getfield 34, 3) := by decide +kernel
theorem dX11_takeRead_235 : decode cX11_takeRead 235 = .ok (.iload_n 1, 1) := by decide +kernel
theorem dX11_takeRead_236 : decode cX11_takeRead 236 = .ok (.iconst 0, 1) := by decide +kernel
theorem dX11_takeRead_237 : decode cX11_takeRead 237 = .ok (.iastore, 1) := by decide +kernel
theorem dX11_takeRead_238 : decode cX11_takeRead 238 = .ok (.iinc 1 1, 3) := by decide +kernel
theorem dX11_takeRead_241 : decode cX11_takeRead 241 = .ok (.goto (-16), 3) := by decide +kernel
theorem dX11_takeRead_228 : decode cX11_takeRead 228 = .ok (.if_icmp .ge 16, 3) := by decide +kernel
theorem dX11_takeRead_244 : decode cX11_takeRead 244 = .ok (.return_, 1) := by decide +kernel
theorem lX11_takeRead_L225 (x : bo_X) (hx : bo_OK x cX11_takeRead RX11 2 1 23)  : ∀ (n : Nat) (w1 : Int32) (σ : bo_M), bo_D x 225 [(0, .ref (bo_a x 135)), (1, .int w1)] [] σ (mX11_takeRead_L225 n w1 σ) (fun a => bo_N x 244 [] [] a) := by
  intro n
  induction n with
  | zero => intro w1 σ; exact bo_none
  | succ n ih =>
    intro w1 σ
    rw [mX11_takeRead_L225]
    refine bo_iload_n hx dX11_takeRead_225 rfl 1 rfl ?_
    refine bo_bipush (v := 107) hx dX11_takeRead_226 (by decide) ?_
    refine bo_icmp_ge hx 244 dX11_takeRead_228 (by decide) ?_ ?_
    · refine bo_sub (L' := []) [] rfl ?_
      exact bo_arr (fun h => h)
    · refine bo_aload_n hx dX11_takeRead_231 rfl 0 rfl ?_
      refine gf_X11_34 hx dX11_takeRead_232 ?_
      refine bo_iload_n hx dX11_takeRead_235 rfl 1 rfl ?_
      refine bo_iconst (v := 0) hx dX11_takeRead_236 (by decide) ?_
      refine bo_iast hx bo_c_144 dX11_takeRead_237 (fun σ23 => ?_)
      refine bo_iinc (L' := [(1, .int (w1 + 1)), (0, .ref (bo_a x 135))]) (w := (w1 + 1)) hx dX11_takeRead_238 1 rfl rfl (by decide) rfl ?_
      refine bo_goto hx 225 dX11_takeRead_241 (by decide) ?_
      refine bo_sub (L' := [(0, .ref (bo_a x 135)), (1, .int (w1 + 1))]) [1, 0] rfl ?_
      exact ih (w1 + 1) σ23
theorem bX11_takeRead (x : bo_X) (hx : bo_OK x cX11_takeRead RX11 2 1 23) (σ : bo_M) : bo_D x 0 [(0, .ref (bo_a x 135))] [] σ (mX11_takeRead σ) (bo_Rv x cX11_takeRead) := by
  unfold mX11_takeRead
  refine bo_aload_n hx dX11_takeRead_0 rfl 0 rfl ?_
  refine bo_aload_n hx dX11_takeRead_1 rfl 0 rfl ?_
  refine gf_X11_156 hx dX11_takeRead_2 ?_
  refine pf_X11_111 hx (bo_b1 _) dX11_takeRead_5 (fun σ1 => ?_)
  refine bo_aload_n hx dX11_takeRead_8 rfl 0 rfl ?_
  refine bo_aload_n hx dX11_takeRead_9 rfl 0 rfl ?_
  refine gf_X11_156 hx dX11_takeRead_10 ?_
  refine bo_seq 26 (fun a => [(0, .ref (bo_a x 135))]) (fun a => [.int a, .ref (bo_a x 135)]) (fun a => σ1) ?_ (fun a2 => ?_)
  · refine bo_if_eq hx 25 dX11_takeRead_13 (by decide) ?_ ?_
    · refine bo_iconst (v := 0) hx dX11_takeRead_25 (by decide) ?_
      exact bo_arr (fun h => h)
    · refine bo_aload_n hx dX11_takeRead_16 rfl 0 rfl ?_
      refine gf_X11_44 hx dX11_takeRead_17 ?_
      refine bo_iconst (v := 0) hx dX11_takeRead_20 (by decide) ?_
      refine bo_iald hx bo_c_146 dX11_takeRead_21 (fun v3 => ?_)
      refine bo_goto hx 26 dX11_takeRead_22 (by decide) ?_
      exact bo_arr (fun h => h)
  · refine pf_X11_201 hx dX11_takeRead_26 (fun σ4 => ?_)
    refine bo_aload_n hx dX11_takeRead_29 rfl 0 rfl ?_
    refine bo_aload_n hx dX11_takeRead_30 rfl 0 rfl ?_
    refine gf_X11_156 hx dX11_takeRead_31 ?_
    refine bo_seq 47 (fun a => [(0, .ref (bo_a x 135))]) (fun a => [.int a, .ref (bo_a x 135)]) (fun a => σ4) ?_ (fun a5 => ?_)
    · refine bo_if_eq hx 46 dX11_takeRead_34 (by decide) ?_ ?_
      · refine bo_iconst (v := 0) hx dX11_takeRead_46 (by decide) ?_
        exact bo_arr (fun h => h)
      · refine bo_aload_n hx dX11_takeRead_37 rfl 0 rfl ?_
        refine gf_X11_44 hx dX11_takeRead_38 ?_
        refine bo_iconst (v := 1) hx dX11_takeRead_41 (by decide) ?_
        refine bo_iald hx bo_c_146 dX11_takeRead_42 (fun v6 => ?_)
        refine bo_goto hx 47 dX11_takeRead_43 (by decide) ?_
        exact bo_arr (fun h => h)
    · refine pf_X11_204 hx dX11_takeRead_47 (fun σ7 => ?_)
      refine bo_aload_n hx dX11_takeRead_50 rfl 0 rfl ?_
      refine bo_aload_n hx dX11_takeRead_51 rfl 0 rfl ?_
      refine gf_X11_156 hx dX11_takeRead_52 ?_
      refine bo_seq 68 (fun a => [(0, .ref (bo_a x 135))]) (fun a => [.int a, .ref (bo_a x 135)]) (fun a => σ7) ?_ (fun a8 => ?_)
      · refine bo_if_eq hx 67 dX11_takeRead_55 (by decide) ?_ ?_
        · refine bo_iconst (v := 0) hx dX11_takeRead_67 (by decide) ?_
          exact bo_arr (fun h => h)
        · refine bo_aload_n hx dX11_takeRead_58 rfl 0 rfl ?_
          refine gf_X11_44 hx dX11_takeRead_59 ?_
          refine bo_iconst (v := 2) hx dX11_takeRead_62 (by decide) ?_
          refine bo_iald hx bo_c_146 dX11_takeRead_63 (fun v9 => ?_)
          refine bo_goto hx 68 dX11_takeRead_64 (by decide) ?_
          exact bo_arr (fun h => h)
      · refine pf_X11_207 hx dX11_takeRead_68 (fun σ10 => ?_)
        refine bo_aload_n hx dX11_takeRead_71 rfl 0 rfl ?_
        refine bo_aload_n hx dX11_takeRead_72 rfl 0 rfl ?_
        refine gf_X11_163 hx dX11_takeRead_73 ?_
        refine pf_X11_115 hx dX11_takeRead_76 (fun σ11 => ?_)
        refine bo_aload_n hx dX11_takeRead_79 rfl 0 rfl ?_
        refine bo_aload_n hx dX11_takeRead_80 rfl 0 rfl ?_
        refine gf_X11_166 hx dX11_takeRead_81 ?_
        refine pf_X11_210 hx dX11_takeRead_84 (fun σ12 => ?_)
        refine bo_aload_n hx dX11_takeRead_87 rfl 0 rfl ?_
        refine bo_aload_n hx dX11_takeRead_88 rfl 0 rfl ?_
        refine gf_X11_169 hx dX11_takeRead_89 ?_
        refine pf_X11_122 hx dX11_takeRead_92 (fun σ13 => ?_)
        refine bo_aload_n hx dX11_takeRead_95 rfl 0 rfl ?_
        refine bo_aload_n hx dX11_takeRead_96 rfl 0 rfl ?_
        refine gf_X11_172 hx dX11_takeRead_97 ?_
        refine pf_X11_213 hx dX11_takeRead_100 (fun σ14 => ?_)
        refine bo_aload_n hx dX11_takeRead_103 rfl 0 rfl ?_
        refine gf_X11_47 hx dX11_takeRead_104 ?_
        refine bo_aload_n hx dX11_takeRead_107 rfl 0 rfl ?_
        refine gf_X11_7 hx dX11_takeRead_108 ?_
        refine bo_aload_n hx dX11_takeRead_111 rfl 0 rfl ?_
        refine gf_X11_115 hx dX11_takeRead_112 ?_
        refine bo_goV hx (fun rr hh => bo_runS (As := [.ref (bo_a x 147), .ref (bo_a x 136), .int (σ14 135 4)]) (S := []) hx dX11_takeRead_115 lk_X11_216 ms_X11_copyRow (kX11_copyRow (bo_l x) (bo_g x) hx.inj σ14 7 147 7 136 (σ14 135 4) bo_c_147 bo_c_136 rr hh) ⟨by decide, by decide⟩ rfl rfl (Nat.le_of_ble_eq_true rfl)) (fun σ15 => ?_)
        refine bo_aload_n hx dX11_takeRead_118 rfl 0 rfl ?_
        refine gf_X11_50 hx dX11_takeRead_119 ?_
        refine bo_aload_n hx dX11_takeRead_122 rfl 0 rfl ?_
        refine gf_X11_13 hx dX11_takeRead_123 ?_
        refine bo_aload_n hx dX11_takeRead_126 rfl 0 rfl ?_
        refine gf_X11_115 hx dX11_takeRead_127 ?_
        refine bo_goV hx (fun rr hh => bo_runS (As := [.ref (bo_a x 148), .ref (bo_a x 137), .int (σ15 135 4)]) (S := []) hx dX11_takeRead_130 lk_X11_216 ms_X11_copyRow (kX11_copyRow (bo_l x) (bo_g x) hx.inj σ15 7 148 7 137 (σ15 135 4) bo_c_148 bo_c_137 rr hh) ⟨by decide, by decide⟩ rfl rfl (Nat.le_of_ble_eq_true rfl)) (fun σ16 => ?_)
        refine bo_aload_n hx dX11_takeRead_133 rfl 0 rfl ?_
        refine gf_X11_53 hx dX11_takeRead_134 ?_
        refine bo_aload_n hx dX11_takeRead_137 rfl 0 rfl ?_
        refine gf_X11_16 hx dX11_takeRead_138 ?_
        refine bo_aload_n hx dX11_takeRead_141 rfl 0 rfl ?_
        refine gf_X11_115 hx dX11_takeRead_142 ?_
        refine bo_goV hx (fun rr hh => bo_runS (As := [.ref (bo_a x 149), .ref (bo_a x 138), .int (σ16 135 4)]) (S := []) hx dX11_takeRead_145 lk_X11_216 ms_X11_copyRow (kX11_copyRow (bo_l x) (bo_g x) hx.inj σ16 7 149 7 138 (σ16 135 4) bo_c_149 bo_c_138 rr hh) ⟨by decide, by decide⟩ rfl rfl (Nat.le_of_ble_eq_true rfl)) (fun σ17 => ?_)
        refine bo_aload_n hx dX11_takeRead_148 rfl 0 rfl ?_
        refine gf_X11_56 hx dX11_takeRead_149 ?_
        refine bo_aload_n hx dX11_takeRead_152 rfl 0 rfl ?_
        refine gf_X11_19 hx dX11_takeRead_153 ?_
        refine bo_aload_n hx dX11_takeRead_156 rfl 0 rfl ?_
        refine gf_X11_210 hx dX11_takeRead_157 ?_
        refine bo_goV hx (fun rr hh => bo_runS (As := [.ref (bo_a x 150), .ref (bo_a x 139), .int (σ17 135 8)]) (S := []) hx dX11_takeRead_160 lk_X11_216 ms_X11_copyRow (kX11_copyRow (bo_l x) (bo_g x) hx.inj σ17 4 150 4 139 (σ17 135 8) bo_c_150 bo_c_139 rr hh) ⟨by decide, by decide⟩ rfl rfl (Nat.le_of_ble_eq_true rfl)) (fun σ18 => ?_)
        refine bo_aload_n hx dX11_takeRead_163 rfl 0 rfl ?_
        refine gf_X11_59 hx dX11_takeRead_164 ?_
        refine bo_aload_n hx dX11_takeRead_167 rfl 0 rfl ?_
        refine gf_X11_22 hx dX11_takeRead_168 ?_
        refine bo_aload_n hx dX11_takeRead_171 rfl 0 rfl ?_
        refine gf_X11_210 hx dX11_takeRead_172 ?_
        refine bo_goV hx (fun rr hh => bo_runS (As := [.ref (bo_a x 151), .ref (bo_a x 140), .int (σ18 135 8)]) (S := []) hx dX11_takeRead_175 lk_X11_216 ms_X11_copyRow (kX11_copyRow (bo_l x) (bo_g x) hx.inj σ18 4 151 4 140 (σ18 135 8) bo_c_151 bo_c_140 rr hh) ⟨by decide, by decide⟩ rfl rfl (Nat.le_of_ble_eq_true rfl)) (fun σ19 => ?_)
        refine bo_aload_n hx dX11_takeRead_178 rfl 0 rfl ?_
        refine gf_X11_62 hx dX11_takeRead_179 ?_
        refine bo_aload_n hx dX11_takeRead_182 rfl 0 rfl ?_
        refine gf_X11_25 hx dX11_takeRead_183 ?_
        refine bo_aload_n hx dX11_takeRead_186 rfl 0 rfl ?_
        refine gf_X11_122 hx dX11_takeRead_187 ?_
        refine bo_goV hx (fun rr hh => bo_runS (As := [.ref (bo_a x 152), .ref (bo_a x 141), .int (σ19 135 11)]) (S := []) hx dX11_takeRead_190 lk_X11_216 ms_X11_copyRow (kX11_copyRow (bo_l x) (bo_g x) hx.inj σ19 6 152 6 141 (σ19 135 11) bo_c_152 bo_c_141 rr hh) ⟨by decide, by decide⟩ rfl rfl (Nat.le_of_ble_eq_true rfl)) (fun σ20 => ?_)
        refine bo_aload_n hx dX11_takeRead_193 rfl 0 rfl ?_
        refine gf_X11_65 hx dX11_takeRead_194 ?_
        refine bo_aload_n hx dX11_takeRead_197 rfl 0 rfl ?_
        refine gf_X11_28 hx dX11_takeRead_198 ?_
        refine bo_aload_n hx dX11_takeRead_201 rfl 0 rfl ?_
        refine gf_X11_122 hx dX11_takeRead_202 ?_
        refine bo_goV hx (fun rr hh => bo_runS (As := [.ref (bo_a x 153), .ref (bo_a x 142), .int (σ20 135 11)]) (S := []) hx dX11_takeRead_205 lk_X11_216 ms_X11_copyRow (kX11_copyRow (bo_l x) (bo_g x) hx.inj σ20 6 153 6 142 (σ20 135 11) bo_c_153 bo_c_142 rr hh) ⟨by decide, by decide⟩ rfl rfl (Nat.le_of_ble_eq_true rfl)) (fun σ21 => ?_)
        refine bo_aload_n hx dX11_takeRead_208 rfl 0 rfl ?_
        refine gf_X11_68 hx dX11_takeRead_209 ?_
        refine bo_aload_n hx dX11_takeRead_212 rfl 0 rfl ?_
        refine gf_X11_31 hx dX11_takeRead_213 ?_
        refine bo_aload_n hx dX11_takeRead_216 rfl 0 rfl ?_
        refine gf_X11_213 hx dX11_takeRead_217 ?_
        refine bo_goV hx (fun rr hh => bo_runS (As := [.ref (bo_a x 154), .ref (bo_a x 143), .int (σ21 135 14)]) (S := []) hx dX11_takeRead_220 lk_X11_216 ms_X11_copyRow (kX11_copyRow (bo_l x) (bo_g x) hx.inj σ21 5 154 5 143 (σ21 135 14) bo_c_154 bo_c_143 rr hh) ⟨by decide, by decide⟩ rfl rfl (Nat.le_of_ble_eq_true rfl)) (fun σ22 => ?_)
        refine bo_iconst (v := 0) hx dX11_takeRead_223 (by decide) ?_
        refine bo_istore_n (L' := [(1, .int 0), (0, .ref (bo_a x 135))]) hx dX11_takeRead_224 rfl (by decide) rfl ?_
        refine bo_sub (L' := [(0, .ref (bo_a x 135)), (1, .int 0)]) [1, 0] rfl ?_
        refine bo_seq 244 (fun a => []) (fun a => []) (fun a => a) (lX11_takeRead_L225 x hx bo_fuel 0 σ22) (fun a24 => ?_)
        exact bo_retv dX11_takeRead_244
theorem kX11_takeRead (l : Launch) (g : bo_G) (hi : bo_inj g) (σ : bo_M) : bo_CV l g yX11_takeRead cX11_takeRead 2 none 1 23 [.ref (g.2.2 135)] σ (mX11_takeRead σ) :=
  bo_metV rfl  (by decide) rfl hi (Nat.le_of_ble_eq_true rfl) (fun x e1 e2 hx => by subst e1; subst e2; exact bX11_takeRead x hx σ)
-- BellRopeModel.inn
theorem dX11_inn_0 : decode cX11_inn 0 = .ok (.aload_n 0, 1) := by decide +kernel
theorem dX11_inn_1 : decode cX11_inn 1 = .ok (.iconst (-1), 1) := by decide +kernel
theorem dX11_inn_2 : decode cX11_inn 2 = .ok (.putfield 40, 3) := by decide +kernel
theorem dX11_inn_5 : decode cX11_inn 5 = .ok (.aload_n 0, 1) := by decide +kernel
theorem dX11_inn_6 : decode cX11_inn 6 = .ok (.iconst 0, 1) := by decide +kernel
theorem dX11_inn_7 : decode cX11_inn 7 = .ok (.putfield 132, 3) := by decide +kernel
theorem dX11_inn_10 : decode cX11_inn 10 = .ok (.aload_n 0, 1) := by decide +kernel
theorem dX11_inn_11 : decode cX11_inn 11 = .ok (.iconst 0, 1) := by decide +kernel
theorem dX11_inn_12 : decode cX11_inn 12 = .ok (.putfield 156, 3) := by decide +kernel
theorem dX11_inn_15 : decode cX11_inn 15 = .ok (.aload_n 0, 1) := by decide +kernel
theorem dX11_inn_16 : decode cX11_inn 16 = .ok (.iconst 0, 1) := by decide +kernel
theorem dX11_inn_17 : decode cX11_inn 17 = .ok (.putfield 163, 3) := by decide +kernel
theorem dX11_inn_20 : decode cX11_inn 20 = .ok (.aload_n 0, 1) := by decide +kernel
theorem dX11_inn_21 : decode cX11_inn 21 = .ok (.iconst 0, 1) := by decide +kernel
theorem dX11_inn_22 : decode cX11_inn 22 = .ok (.putfield 166, 3) := by decide +kernel
theorem dX11_inn_25 : decode cX11_inn 25 = .ok (.aload_n 0, 1) := by decide +kernel
theorem dX11_inn_26 : decode cX11_inn 26 = .ok (.iconst 0, 1) := by decide +kernel
theorem dX11_inn_27 : decode cX11_inn 27 = .ok (.putfield 169, 3) := by decide +kernel
theorem dX11_inn_30 : decode cX11_inn 30 = .ok (.aload_n 0, 1) := by decide +kernel
theorem dX11_inn_31 : decode cX11_inn 31 = .ok (.iconst 0, 1) := by decide +kernel
theorem dX11_inn_32 : decode cX11_inn 32 = .ok (.putfield 172, 3) := by decide +kernel
theorem dX11_inn_35 : decode cX11_inn 35 = .ok (.iconst 0, 1) := by decide +kernel
theorem dX11_inn_36 : decode cX11_inn 36 = .ok (.istore_n 1, 1) := by decide +kernel
theorem dX11_inn_37 : decode cX11_inn 37 = .ok (.iload_n 1, 1) := by decide +kernel
theorem dX11_inn_41 : decode cX11_inn 41 = .ok (.aload_n 0, 1) := by decide +kernel
theorem dX11_inn_42 : decode cX11_inn 42 = .ok (.invokevirtual 135, 3) := by decide +kernel
theorem dX11_inn_48 : decode cX11_inn 48 = .ok (.aload_n 0, 1) := by decide +kernel
theorem dX11_inn_49 : decode cX11_inn 49 = .ok (.invokevirtual 220, 3) := by decide +kernel
theorem dX11_inn_52 : decode cX11_inn 52 = .ok (.istore_n 1, 1) := by decide +kernel
theorem dX11_inn_53 : decode cX11_inn 53 = .ok (.goto (-16), 3) := by decide +kernel
theorem dX11_inn_45 : decode cX11_inn 45 = .ok (.ifCond .lt 11, 3) := by decide +kernel
theorem dX11_inn_38 : decode cX11_inn 38 = .ok (.ifCond .ne 18, 3) := by decide +kernel
theorem dX11_inn_56 : decode cX11_inn 56 = .ok (.aload_n 0, 1) := by decide +kernel
theorem dX11_inn_57 : decode cX11_inn 57 = .ok (.iconst 0, 1) := by decide +kernel
theorem dX11_inn_58 : decode cX11_inn 58 = .ok (.putfield 128, 3) := by decide +kernel
theorem dX11_inn_61 : decode cX11_inn 61 = .ok (.iload_n 1, 1) := by decide +kernel
theorem dX11_inn_70 : decode cX11_inn 70 = .ok (.aload_n 0, 1) := by decide +kernel
theorem dX11_inn_71 : decode cX11_inn 71 = .ok (.invokevirtual 223, 3) := by decide +kernel
theorem dX11_inn_74 : decode cX11_inn 74 = .ok (.aload_n 0, 1) := by decide +kernel
theorem dX11_inn_75 : decode cX11_inn 75 = .ok (.iconst 0, 1) := by decide +kernel
theorem dX11_inn_76 : decode cX11_inn 76 = .ok (.putfield 226, 3) := by decide +kernel
theorem dX11_inn_79 : decode cX11_inn 79 = .ok (.aload_n 0, 1) := by decide +kernel
theorem dX11_inn_80 : decode cX11_inn 80 = .ok (.iconst 0, 1) := by decide +kernel
theorem dX11_inn_81 : decode cX11_inn 81 = .ok (.putfield 229, 3) := by decide +kernel
theorem dX11_inn_84 : decode cX11_inn 84 = .ok (.aload_n 0, 1) := by decide +kernel
theorem dX11_inn_85 : decode cX11_inn 85 = .ok (.iconst 0, 1) := by decide +kernel
theorem dX11_inn_86 : decode cX11_inn 86 = .ok (.putfield 232, 3) := by decide +kernel
theorem dX11_inn_89 : decode cX11_inn 89 = .ok (.aload_n 0, 1) := by decide +kernel
theorem dX11_inn_90 : decode cX11_inn 90 = .ok (.getfield 108, 3) := by decide +kernel
theorem dX11_inn_93 : decode cX11_inn 93 = .ok (.iconst 0, 1) := by decide +kernel
theorem dX11_inn_94 : decode cX11_inn 94 = .ok (.iconst 0, 1) := by decide +kernel
theorem dX11_inn_95 : decode cX11_inn 95 = .ok (.bastore, 1) := by decide +kernel
theorem dX11_inn_96 : decode cX11_inn 96 = .ok (.aload_n 0, 1) := by decide +kernel
theorem dX11_inn_97 : decode cX11_inn 97 = .ok (.getfield 108, 3) := by decide +kernel
theorem dX11_inn_100 : decode cX11_inn 100 = .ok (.iconst 1, 1) := by decide +kernel
theorem dX11_inn_101 : decode cX11_inn 101 = .ok (.iconst 0, 1) := by decide +kernel
theorem dX11_inn_102 : decode cX11_inn 102 = .ok (.bastore, 1) := by decide +kernel
theorem dX11_inn_103 : decode cX11_inn 103 = .ok (.aload_n 0, 1) := by decide +kernel
theorem dX11_inn_104 : decode cX11_inn 104 = .ok (.getfield 115, 3) := by decide +kernel
theorem dX11_inn_107 : decode cX11_inn 107 = .ok (.ireturn, 1) := by decide +kernel
theorem dX11_inn_65 : decode cX11_inn 65 = .ok (.bipush (-10), 2) := by decide +kernel
theorem dX11_inn_67 : decode cX11_inn 67 = .ok (.iload_n 1, 1) := by decide +kernel
theorem dX11_inn_68 : decode cX11_inn 68 = .ok (.isub, 1) := by decide +kernel
theorem dX11_inn_69 : decode cX11_inn 69 = .ok (.ireturn, 1) := by decide +kernel
theorem dX11_inn_62 : decode cX11_inn 62 = .ok (.ifCond .le 8, 3) := by decide +kernel
theorem lX11_inn_L37 (x : bo_X) (hx : bo_OK x cX11_inn RX11 2 6 139)  : ∀ (n : Nat) (w1 : Int32) (σ : bo_M), bo_D x 37 [(0, .ref (bo_a x 135)), (1, .int w1)] [] σ (mX11_inn_L37 n w1 σ) (fun a => bo_N x 56 [(0, .ref (bo_a x 135)), (1, .int a.1)] [] a.2) := by
  intro n
  induction n with
  | zero => intro w1 σ; exact bo_none
  | succ n ih =>
    intro w1 σ
    rw [mX11_inn_L37]
    refine bo_iload_n hx dX11_inn_37 rfl 1 rfl ?_
    refine bo_if_ne hx 56 dX11_inn_38 (by decide) ?_ ?_
    · exact bo_arr (fun h => h)
    · refine bo_aload_n hx dX11_inn_41 rfl 0 rfl ?_
      refine bo_goW (z := false) hx (fun rr hh => bo_runV (As := []) (S := []) hx dX11_inn_42 lk_X11_135 mi_X11_here bo_o_135 rfl rfl (kX11_here (bo_l x) (bo_g x) hx.inj σ rr hh) ⟨by decide, by decide⟩ rfl rfl (Nat.le_of_ble_eq_true rfl)) (fun a8 ha8 => ?_)
      refine bo_if_lt hx 56 dX11_inn_45 (by decide) ?_ ?_
      · exact bo_arr (fun h => h)
      · refine bo_aload_n hx dX11_inn_48 rfl 0 rfl ?_
        refine bo_goW (z := false) hx (fun rr hh => bo_runV (As := []) (S := []) hx dX11_inn_49 lk_X11_220 mi_X11_takeClause bo_o_135 rfl rfl (kX11_takeClause (bo_l x) (bo_g x) hx.inj a8.2 rr hh) ⟨by decide, by decide⟩ rfl rfl (Nat.le_of_ble_eq_true rfl)) (fun a9 ha9 => ?_)
        refine bo_istore_n (L' := [(1, .int a9.1), (0, .ref (bo_a x 135))]) hx dX11_inn_52 rfl (by decide) rfl ?_
        refine bo_goto hx 37 dX11_inn_53 (by decide) ?_
        refine bo_sub (L' := [(0, .ref (bo_a x 135)), (1, .int a9.1)]) [1, 0] rfl ?_
        exact ih a9.1 a9.2
theorem bX11_inn (x : bo_X) (hx : bo_OK x cX11_inn RX11 2 6 139) (σ : bo_M) : bo_D x 0 [(0, .ref (bo_a x 135))] [] σ (mX11_inn σ) (bo_Rw x cX11_inn false) := by
  unfold mX11_inn
  refine bo_aload_n hx dX11_inn_0 rfl 0 rfl ?_
  refine bo_iconst (v := (-1)) hx dX11_inn_1 (by decide) ?_
  refine pf_X11_40 hx dX11_inn_2 (fun σ1 => ?_)
  refine bo_aload_n hx dX11_inn_5 rfl 0 rfl ?_
  refine bo_iconst (v := 0) hx dX11_inn_6 (by decide) ?_
  refine pf_X11_132 hx dX11_inn_7 (fun σ2 => ?_)
  refine bo_aload_n hx dX11_inn_10 rfl 0 rfl ?_
  refine bo_iconst (v := 0) hx dX11_inn_11 (by decide) ?_
  refine pf_X11_156 hx bo_b_0 dX11_inn_12 (fun σ3 => ?_)
  refine bo_aload_n hx dX11_inn_15 rfl 0 rfl ?_
  refine bo_iconst (v := 0) hx dX11_inn_16 (by decide) ?_
  refine pf_X11_163 hx dX11_inn_17 (fun σ4 => ?_)
  refine bo_aload_n hx dX11_inn_20 rfl 0 rfl ?_
  refine bo_iconst (v := 0) hx dX11_inn_21 (by decide) ?_
  refine pf_X11_166 hx dX11_inn_22 (fun σ5 => ?_)
  refine bo_aload_n hx dX11_inn_25 rfl 0 rfl ?_
  refine bo_iconst (v := 0) hx dX11_inn_26 (by decide) ?_
  refine pf_X11_169 hx dX11_inn_27 (fun σ6 => ?_)
  refine bo_aload_n hx dX11_inn_30 rfl 0 rfl ?_
  refine bo_iconst (v := 0) hx dX11_inn_31 (by decide) ?_
  refine pf_X11_172 hx dX11_inn_32 (fun σ7 => ?_)
  refine bo_iconst (v := 0) hx dX11_inn_35 (by decide) ?_
  refine bo_istore_n (L' := [(1, .int 0), (0, .ref (bo_a x 135))]) hx dX11_inn_36 rfl (by decide) rfl ?_
  refine bo_sub (L' := [(0, .ref (bo_a x 135)), (1, .int 0)]) [1, 0] rfl ?_
  refine bo_seq 56 (fun a => [(0, .ref (bo_a x 135)), (1, .int a.1)]) (fun a => []) (fun a => a.2) (lX11_inn_L37 x hx bo_fuel 0 σ7) (fun a10 => ?_)
  refine bo_aload_n hx dX11_inn_56 rfl 0 rfl ?_
  refine bo_iconst (v := 0) hx dX11_inn_57 (by decide) ?_
  refine pf_X11_128 hx dX11_inn_58 (fun σ11 => ?_)
  refine bo_iload_n hx dX11_inn_61 rfl 1 rfl ?_
  refine bo_if_le hx 70 dX11_inn_62 (by decide) ?_ ?_
  · refine bo_aload_n hx dX11_inn_70 rfl 0 rfl ?_
    refine bo_goV hx (fun rr hh => bo_runV (As := []) (S := []) hx dX11_inn_71 lk_X11_223 mi_X11_takeRead bo_o_135 rfl rfl (kX11_takeRead (bo_l x) (bo_g x) hx.inj σ11 rr hh) ⟨by decide, by decide⟩ rfl rfl (Nat.le_of_ble_eq_true rfl)) (fun σ12 => ?_)
    refine bo_aload_n hx dX11_inn_74 rfl 0 rfl ?_
    refine bo_iconst (v := 0) hx dX11_inn_75 (by decide) ?_
    refine pf_X11_226 hx dX11_inn_76 (fun σ13 => ?_)
    refine bo_aload_n hx dX11_inn_79 rfl 0 rfl ?_
    refine bo_iconst (v := 0) hx dX11_inn_80 (by decide) ?_
    refine pf_X11_229 hx dX11_inn_81 (fun σ14 => ?_)
    refine bo_aload_n hx dX11_inn_84 rfl 0 rfl ?_
    refine bo_iconst (v := 0) hx dX11_inn_85 (by decide) ?_
    refine pf_X11_232 hx dX11_inn_86 (fun σ15 => ?_)
    refine bo_aload_n hx dX11_inn_89 rfl 0 rfl ?_
    refine gf_X11_108 hx dX11_inn_90 ?_
    refine bo_iconst (v := 0) hx dX11_inn_93 (by decide) ?_
    refine bo_iconst (v := 0) hx dX11_inn_94 (by decide) ?_
    refine bo_zast hx bo_c_167 dX11_inn_95 (fun σ16 => ?_)
    refine bo_aload_n hx dX11_inn_96 rfl 0 rfl ?_
    refine gf_X11_108 hx dX11_inn_97 ?_
    refine bo_iconst (v := 1) hx dX11_inn_100 (by decide) ?_
    refine bo_iconst (v := 0) hx dX11_inn_101 (by decide) ?_
    refine bo_zast hx bo_c_167 dX11_inn_102 (fun σ17 => ?_)
    refine bo_aload_n hx dX11_inn_103 rfl 0 rfl ?_
    refine gf_X11_115 hx dX11_inn_104 ?_
    exact bo_retw dX11_inn_107 (fun h => by cases h)
  · refine bo_bipush (v := (-10)) hx dX11_inn_65 (by decide) ?_
    refine bo_iload_n hx dX11_inn_67 rfl 1 rfl ?_
    refine bo_isub hx dX11_inn_68 ?_
    exact bo_retw dX11_inn_69 (fun h => by cases h)
theorem kX11_inn (l : Launch) (g : bo_G) (hi : bo_inj g) (σ : bo_M) : bo_CW l g yX11_inn cX11_inn 2 (some .int) 6 139 [.ref (g.2.2 135)] σ false (mX11_inn σ) :=
  bo_metW rfl (Or.inl ⟨rfl, rfl⟩) (by decide) rfl hi (Nat.le_of_ble_eq_true rfl) (fun x e1 e2 hx => by subst e1; subst e2; exact bX11_inn x hx σ)
-- BellRopeModel.fault
theorem dX11_fault_0 : decode cX11_fault 0 = .ok (.aload_n 0, 1) := by decide +kernel
theorem dX11_fault_1 : decode cX11_fault 1 = .ok (.getfield 40, 3) := by decide +kernel
theorem dX11_fault_4 : decode cX11_fault 4 = .ok (.ireturn, 1) := by decide +kernel
theorem bX11_fault (x : bo_X) (hx : bo_OK x cX11_fault RX11 1 0 0) (σ : bo_M) : bo_D x 0 [(0, .ref (bo_a x 135))] [] σ (mX11_fault σ) (bo_Ri x cX11_fault σ false) := by
  unfold mX11_fault
  refine bo_aload_n hx dX11_fault_0 rfl 0 rfl ?_
  refine gf_X11_40 hx dX11_fault_1 ?_
  exact bo_ret dX11_fault_4 (fun h => by cases h)
theorem kX11_fault (l : Launch) (g : bo_G) (hi : bo_inj g) (σ : bo_M) : bo_CR l g yX11_fault cX11_fault 1 (some .int) 0 0 [.ref (g.2.2 135)] σ false (mX11_fault σ) :=
  bo_metR rfl (Or.inl ⟨rfl, rfl⟩) (by decide) rfl hi (Nat.le_of_ble_eq_true rfl) (fun x e1 e2 hx => by subst e1; subst e2; exact bX11_fault x hx σ)
-- BellRopeModel.whoIsIn
theorem dX11_whoIsIn_0 : decode cX11_whoIsIn 0 = .ok (.iconst 0, 1) := by decide +kernel
theorem dX11_whoIsIn_1 : decode cX11_whoIsIn 1 = .ok (.istore_n 1, 1) := by decide +kernel
theorem dX11_whoIsIn_2 : decode cX11_whoIsIn 2 = .ok (.iconst 0, 1) := by decide +kernel
theorem dX11_whoIsIn_3 : decode cX11_whoIsIn 3 = .ok (.istore_n 2, 1) := by decide +kernel
theorem dX11_whoIsIn_4 : decode cX11_whoIsIn 4 = .ok (.iload_n 2, 1) := by decide +kernel
theorem dX11_whoIsIn_5 : decode cX11_whoIsIn 5 = .ok (.aload_n 0, 1) := by decide +kernel
theorem dX11_whoIsIn_6 : decode cX11_whoIsIn 6 = .ok (.getfield 115, 3) := by decide +kernel
theorem dX11_whoIsIn_12 : decode cX11_whoIsIn 12 = .ok (.iload_n 1, 1) := by decide +kernel
theorem dX11_whoIsIn_13 : decode cX11_whoIsIn 13 = .ok (.aload_n 0, 1) := by decide +kernel
theorem dX11_whoIsIn_14 : decode cX11_whoIsIn 14 = .ok (.getfield 34, 3) := by decide +kernel
theorem dX11_whoIsIn_17 : decode cX11_whoIsIn 17 = .ok (.iconst 0, 1) := by decide +kernel
theorem dX11_whoIsIn_18 : decode cX11_whoIsIn 18 = .ok (.iload_n 2, 1) := by decide +kernel
theorem dX11_whoIsIn_19 : decode cX11_whoIsIn 19 = .ok (.iadd, 1) := by decide +kernel
theorem dX11_whoIsIn_20 : decode cX11_whoIsIn 20 = .ok (.iaload, 1) := by decide +kernel
theorem dX11_whoIsIn_21 : decode cX11_whoIsIn 21 = .ok (.iconst 1, 1) := by decide +kernel
theorem dX11_whoIsIn_31 : decode cX11_whoIsIn 31 = .ok (.iconst 0, 1) := by decide +kernel
theorem dX11_whoIsIn_25 : decode cX11_whoIsIn 25 = .ok (.iconst 1, 1) := by decide +kernel
theorem dX11_whoIsIn_26 : decode cX11_whoIsIn 26 = .ok (.iload_n 2, 1) := by decide +kernel
theorem dX11_whoIsIn_27 : decode cX11_whoIsIn 27 = .ok (.ishl, 1) := by decide +kernel
theorem dX11_whoIsIn_28 : decode cX11_whoIsIn 28 = .ok (.goto 4, 3) := by decide +kernel
theorem dX11_whoIsIn_22 : decode cX11_whoIsIn 22 = .ok (.if_icmp .ne 9, 3) := by decide +kernel
theorem dX11_whoIsIn_32 : decode cX11_whoIsIn 32 = .ok (.ior, 1) := by decide +kernel
theorem dX11_whoIsIn_33 : decode cX11_whoIsIn 33 = .ok (.istore_n 1, 1) := by decide +kernel
theorem dX11_whoIsIn_34 : decode cX11_whoIsIn 34 = .ok (.iinc 2 1, 3) := by decide +kernel
theorem dX11_whoIsIn_37 : decode cX11_whoIsIn 37 = .ok (.goto (-33), 3) := by decide +kernel
theorem dX11_whoIsIn_9 : decode cX11_whoIsIn 9 = .ok (.if_icmp .ge 31, 3) := by decide +kernel
theorem dX11_whoIsIn_40 : decode cX11_whoIsIn 40 = .ok (.iload_n 1, 1) := by decide +kernel
theorem dX11_whoIsIn_41 : decode cX11_whoIsIn 41 = .ok (.ireturn, 1) := by decide +kernel
theorem lX11_whoIsIn_L4 (x : bo_X) (hx : bo_OK x cX11_whoIsIn RX11 3 0 0) (σ : bo_M) : ∀ (n : Nat) (w1 : Int32) (w2 : Int32), bo_D x 4 [(0, .ref (bo_a x 135)), (1, .int w1), (2, .int w2)] [] σ (mX11_whoIsIn_L4 σ n w1 w2) (fun a => bo_N x 40 [(1, .int a)] [] σ) := by
  intro n
  induction n with
  | zero => intro w1 w2; exact bo_none
  | succ n ih =>
    intro w1 w2
    rw [mX11_whoIsIn_L4]
    refine bo_iload_n hx dX11_whoIsIn_4 rfl 2 rfl ?_
    refine bo_aload_n hx dX11_whoIsIn_5 rfl 0 rfl ?_
    refine gf_X11_115 hx dX11_whoIsIn_6 ?_
    refine bo_icmp_ge hx 40 dX11_whoIsIn_9 (by decide) ?_ ?_
    · refine bo_sub (L' := [(1, .int w1)]) [1] rfl ?_
      exact bo_arr (fun h => h)
    · refine bo_iload_n hx dX11_whoIsIn_12 rfl 1 rfl ?_
      refine bo_aload_n hx dX11_whoIsIn_13 rfl 0 rfl ?_
      refine gf_X11_34 hx dX11_whoIsIn_14 ?_
      refine bo_iconst (v := 0) hx dX11_whoIsIn_17 (by decide) ?_
      refine bo_iload_n hx dX11_whoIsIn_18 rfl 2 rfl ?_
      refine bo_iadd hx dX11_whoIsIn_19 ?_
      refine bo_iald hx bo_c_144 dX11_whoIsIn_20 (fun v1 => ?_)
      refine bo_iconst (v := 1) hx dX11_whoIsIn_21 (by decide) ?_
      refine bo_seq 32 (fun a => [(0, .ref (bo_a x 135)), (2, .int w2)]) (fun a => [.int a, .int w1]) (fun a => σ) ?_ (fun a2 => ?_)
      · refine bo_icmp_ne hx 31 dX11_whoIsIn_22 (by decide) ?_ ?_
        · refine bo_iconst (v := 0) hx dX11_whoIsIn_31 (by decide) ?_
          refine bo_sub (L' := [(0, .ref (bo_a x 135)), (2, .int w2)]) [0, 2] rfl ?_
          exact bo_arr (fun h => h)
        · refine bo_iconst (v := 1) hx dX11_whoIsIn_25 (by decide) ?_
          refine bo_iload_n hx dX11_whoIsIn_26 rfl 2 rfl ?_
          refine bo_ishl hx dX11_whoIsIn_27 ?_
          refine bo_goto hx 32 dX11_whoIsIn_28 (by decide) ?_
          refine bo_sub (L' := [(0, .ref (bo_a x 135)), (2, .int w2)]) [0, 2] rfl ?_
          exact bo_arr (fun h => h)
      · refine bo_ior hx dX11_whoIsIn_32 ?_
        refine bo_istore_n (L' := [(1, .int (w1 ||| a2)), (0, .ref (bo_a x 135)), (2, .int w2)]) hx dX11_whoIsIn_33 rfl (by decide) rfl ?_
        refine bo_iinc (L' := [(2, .int (w2 + 1)), (1, .int (w1 ||| a2)), (0, .ref (bo_a x 135))]) (w := (w2 + 1)) hx dX11_whoIsIn_34 2 rfl rfl (by decide) rfl ?_
        refine bo_goto hx 4 dX11_whoIsIn_37 (by decide) ?_
        refine bo_sub (L' := [(0, .ref (bo_a x 135)), (1, .int (w1 ||| a2)), (2, .int (w2 + 1))]) [2, 1, 0] rfl ?_
        exact ih (w1 ||| a2) (w2 + 1)
theorem bX11_whoIsIn (x : bo_X) (hx : bo_OK x cX11_whoIsIn RX11 3 0 0) (σ : bo_M) : bo_D x 0 [(0, .ref (bo_a x 135))] [] σ (mX11_whoIsIn σ) (bo_Ri x cX11_whoIsIn σ false) := by
  unfold mX11_whoIsIn
  refine bo_iconst (v := 0) hx dX11_whoIsIn_0 (by decide) ?_
  refine bo_istore_n (L' := [(1, .int 0), (0, .ref (bo_a x 135))]) hx dX11_whoIsIn_1 rfl (by decide) rfl ?_
  refine bo_iconst (v := 0) hx dX11_whoIsIn_2 (by decide) ?_
  refine bo_istore_n (L' := [(2, .int 0), (1, .int 0), (0, .ref (bo_a x 135))]) hx dX11_whoIsIn_3 rfl (by decide) rfl ?_
  refine bo_sub (L' := [(0, .ref (bo_a x 135)), (1, .int 0), (2, .int 0)]) [2, 1, 0] rfl ?_
  refine bo_seq 40 (fun a => [(1, .int a)]) (fun a => []) (fun a => σ) (lX11_whoIsIn_L4 x hx σ bo_fuel 0 0) (fun a3 => ?_)
  refine bo_iload_n hx dX11_whoIsIn_40 rfl 0 rfl ?_
  exact bo_ret dX11_whoIsIn_41 (fun h => by cases h)
theorem kX11_whoIsIn (l : Launch) (g : bo_G) (hi : bo_inj g) (σ : bo_M) : bo_CR l g yX11_whoIsIn cX11_whoIsIn 3 (some .int) 0 0 [.ref (g.2.2 135)] σ false (mX11_whoIsIn σ) :=
  bo_metR rfl (Or.inl ⟨rfl, rfl⟩) (by decide) rfl hi (Nat.le_of_ble_eq_true rfl) (fun x e1 e2 hx => by subst e1; subst e2; exact bX11_whoIsIn x hx σ)
