-- BellRope$Evening.pass
theorem dX2_pass_0 : decode cX2_pass 0 = .ok (.aload_n 0, 1) := by decide +kernel
theorem dX2_pass_1 : decode cX2_pass 1 = .ok (.aload_n 1, 1) := by decide +kernel
theorem dX2_pass_2 : decode cX2_pass 2 = .ok (.invokevirtual 106, 3) := by decide +kernel
theorem dX2_pass_5 : decode cX2_pass 5 = .ok (.istore_n 2, 1) := by decide +kernel
theorem dX2_pass_6 : decode cX2_pass 6 = .ok (.iload_n 2, 1) := by decide +kernel
theorem dX2_pass_7 : decode cX2_pass 7 = .ok (.invokestatic 109, 3) := by decide +kernel
theorem dX2_pass_10 : decode cX2_pass 10 = .ok (.istore_n 3, 1) := by decide +kernel
theorem dX2_pass_11 : decode cX2_pass 11 = .ok (.aload_n 0, 1) := by decide +kernel
theorem dX2_pass_12 : decode cX2_pass 12 = .ok (.aload_n 1, 1) := by decide +kernel
theorem dX2_pass_13 : decode cX2_pass 13 = .ok (.iload_n 3, 1) := by decide +kernel
theorem dX2_pass_14 : decode cX2_pass 14 = .ok (.invokevirtual 115, 3) := by decide +kernel
theorem dX2_pass_17 : decode cX2_pass 17 = .ok (.istore 4, 2) := by decide +kernel
theorem dX2_pass_19 : decode cX2_pass 19 = .ok (.aload_n 0, 1) := by decide +kernel
theorem dX2_pass_20 : decode cX2_pass 20 = .ok (.invokevirtual 77, 3) := by decide +kernel
theorem dX2_pass_26 : decode cX2_pass 26 = .ok (.aload_n 0, 1) := by decide +kernel
theorem dX2_pass_27 : decode cX2_pass 27 = .ok (.getfield 9, 3) := by decide +kernel
theorem dX2_pass_30 : decode cX2_pass 30 = .ok (.invokestatic 43, 3) := by decide +kernel
theorem dX2_pass_23 : decode cX2_pass 23 = .ok (.ifCond .eq 10, 3) := by decide +kernel
theorem dX2_pass_33 : decode cX2_pass 33 = .ok (.iconst 0, 1) := by decide +kernel
theorem dX2_pass_34 : decode cX2_pass 34 = .ok (.istore 5, 2) := by decide +kernel
theorem dX2_pass_36 : decode cX2_pass 36 = .ok (.iload 5, 2) := by decide +kernel
theorem dX2_pass_38 : decode cX2_pass 38 = .ok (.aload_n 1, 1) := by decide +kernel
theorem dX2_pass_39 : decode cX2_pass 39 = .ok (.getfield 71, 3) := by decide +kernel
theorem dX2_pass_45 : decode cX2_pass 45 = .ok (.aload_n 0, 1) := by decide +kernel
theorem dX2_pass_46 : decode cX2_pass 46 = .ok (.getfield 9, 3) := by decide +kernel
theorem dX2_pass_49 : decode cX2_pass 49 = .ok (.iload 5, 2) := by decide +kernel
theorem dX2_pass_51 : decode cX2_pass 51 = .ok (.aload_n 0, 1) := by decide +kernel
theorem dX2_pass_52 : decode cX2_pass 52 = .ok (.getfield 9, 3) := by decide +kernel
theorem dX2_pass_55 : decode cX2_pass 55 = .ok (.iload 5, 2) := by decide +kernel
theorem dX2_pass_57 : decode cX2_pass 57 = .ok (.invokestatic 59, 3) := by decide +kernel
theorem dX2_pass_60 : decode cX2_pass 60 = .ok (.iload_n 2, 1) := by decide +kernel
theorem dX2_pass_61 : decode cX2_pass 61 = .ok (.iload 5, 2) := by decide +kernel
theorem dX2_pass_63 : decode cX2_pass 63 = .ok (.invokestatic 68, 3) := by decide +kernel
theorem dX2_pass_66 : decode cX2_pass 66 = .ok (.iadd, 1) := by decide +kernel
theorem dX2_pass_67 : decode cX2_pass 67 = .ok (.invokestatic 118, 3) := by decide +kernel
theorem dX2_pass_70 : decode cX2_pass 70 = .ok (.iinc 5 1, 3) := by decide +kernel
theorem dX2_pass_73 : decode cX2_pass 73 = .ok (.goto (-37), 3) := by decide +kernel
theorem dX2_pass_42 : decode cX2_pass 42 = .ok (.if_icmp .ge 34, 3) := by decide +kernel
theorem dX2_pass_76 : decode cX2_pass 76 = .ok (.aload_n 0, 1) := by decide +kernel
theorem dX2_pass_77 : decode cX2_pass 77 = .ok (.dup, 1) := by decide +kernel
theorem dX2_pass_78 : decode cX2_pass 78 = .ok (.getfield 37, 3) := by decide +kernel
theorem dX2_pass_81 : decode cX2_pass 81 = .ok (.iload_n 3, 1) := by decide +kernel
theorem dX2_pass_82 : decode cX2_pass 82 = .ok (.iadd, 1) := by decide +kernel
theorem dX2_pass_83 : decode cX2_pass 83 = .ok (.putfield 37, 3) := by decide +kernel
theorem dX2_pass_86 : decode cX2_pass 86 = .ok (.aload_n 0, 1) := by decide +kernel
theorem dX2_pass_87 : decode cX2_pass 87 = .ok (.getfield 18, 3) := by decide +kernel
theorem dX2_pass_90 : decode cX2_pass 90 = .ok (.aload_n 0, 1) := by decide +kernel
theorem dX2_pass_91 : decode cX2_pass 91 = .ok (.getfield 24, 3) := by decide +kernel
theorem dX2_pass_94 : decode cX2_pass 94 = .ok (.bipush 40, 2) := by decide +kernel
theorem dX2_pass_96 : decode cX2_pass 96 = .ok (.irem, 1) := by decide +kernel
theorem dX2_pass_97 : decode cX2_pass 97 = .ok (.iload 4, 2) := by decide +kernel
theorem dX2_pass_99 : decode cX2_pass 99 = .ok (.invokestatic 118, 3) := by decide +kernel
theorem dX2_pass_102 : decode cX2_pass 102 = .ok (.aload_n 0, 1) := by decide +kernel
theorem dX2_pass_103 : decode cX2_pass 103 = .ok (.getfield 21, 3) := by decide +kernel
theorem dX2_pass_106 : decode cX2_pass 106 = .ok (.aload_n 0, 1) := by decide +kernel
theorem dX2_pass_107 : decode cX2_pass 107 = .ok (.getfield 24, 3) := by decide +kernel
theorem dX2_pass_110 : decode cX2_pass 110 = .ok (.bipush 40, 2) := by decide +kernel
theorem dX2_pass_112 : decode cX2_pass 112 = .ok (.irem, 1) := by decide +kernel
theorem dX2_pass_113 : decode cX2_pass 113 = .ok (.iload_n 3, 1) := by decide +kernel
theorem dX2_pass_114 : decode cX2_pass 114 = .ok (.invokestatic 118, 3) := by decide +kernel
theorem dX2_pass_117 : decode cX2_pass 117 = .ok (.iload 4, 2) := by decide +kernel
theorem dX2_pass_119 : decode cX2_pass 119 = .ok (.iconst 1, 1) := by decide +kernel
theorem dX2_pass_123 : decode cX2_pass 123 = .ok (.aload_n 0, 1) := by decide +kernel
theorem dX2_pass_124 : decode cX2_pass 124 = .ok (.aload_n 0, 1) := by decide +kernel
theorem dX2_pass_125 : decode cX2_pass 125 = .ok (.getfield 31, 3) := by decide +kernel
theorem dX2_pass_128 : decode cX2_pass 128 = .ok (.iconst 1, 1) := by decide +kernel
theorem dX2_pass_129 : decode cX2_pass 129 = .ok (.iadd, 1) := by decide +kernel
theorem dX2_pass_130 : decode cX2_pass 130 = .ok (.bipush 12, 2) := by decide +kernel
theorem dX2_pass_132 : decode cX2_pass 132 = .ok (.irem, 1) := by decide +kernel
theorem dX2_pass_133 : decode cX2_pass 133 = .ok (.putfield 31, 3) := by decide +kernel
theorem dX2_pass_120 : decode cX2_pass 120 = .ok (.if_icmp .lt 16, 3) := by decide +kernel
theorem dX2_pass_136 : decode cX2_pass 136 = .ok (.aload_n 0, 1) := by decide +kernel
theorem dX2_pass_137 : decode cX2_pass 137 = .ok (.iconst 0, 1) := by decide +kernel
theorem dX2_pass_138 : decode cX2_pass 138 = .ok (.aload_n 0, 1) := by decide +kernel
theorem dX2_pass_139 : decode cX2_pass 139 = .ok (.getfield 34, 3) := by decide +kernel
theorem dX2_pass_142 : decode cX2_pass 142 = .ok (.iconst 1, 1) := by decide +kernel
theorem dX2_pass_143 : decode cX2_pass 143 = .ok (.isub, 1) := by decide +kernel
theorem dX2_pass_144 : decode cX2_pass 144 = .ok (.invokestatic 122, 3) := by decide +kernel
theorem dX2_pass_147 : decode cX2_pass 147 = .ok (.putfield 34, 3) := by decide +kernel
theorem dX2_pass_150 : decode cX2_pass 150 = .ok (.aload_n 0, 1) := by decide +kernel
theorem dX2_pass_151 : decode cX2_pass 151 = .ok (.dup, 1) := by decide +kernel
theorem dX2_pass_152 : decode cX2_pass 152 = .ok (.getfield 24, 3) := by decide +kernel
theorem dX2_pass_155 : decode cX2_pass 155 = .ok (.iconst 1, 1) := by decide +kernel
theorem dX2_pass_156 : decode cX2_pass 156 = .ok (.iadd, 1) := by decide +kernel
theorem dX2_pass_157 : decode cX2_pass 157 = .ok (.putfield 24, 3) := by decide +kernel
theorem dX2_pass_160 : decode cX2_pass 160 = .ok (.iload 4, 2) := by decide +kernel
theorem dX2_pass_162 : decode cX2_pass 162 = .ok (.ireturn, 1) := by decide +kernel
theorem lX2_pass_L36 (x : bo_X) (hx : bo_OK x cX2_pass RX2 6 3 70) (f0 : Nat) (f1 : Nat) (f2 : Int32) (f3 : Int32) (f4 : Int32) (hf0 : bo_isEv f0) (hf1 : bo_isInn f1) : ∀ (n : Nat) (w5 : Int32) (σ : bo_M), bo_D x 36 [(0, .ref (bo_a x f0)), (1, .ref (bo_a x f1)), (2, .int f2), (3, .int f3), (4, .int f4), (5, .int w5)] [] σ (mX2_pass_L36 f0 f1 f2 f3 f4 n w5 σ) (fun a => bo_N x 76 [(0, .ref (bo_a x f0)), (3, .int f3), (4, .int f4)] [] a) := by
  intro n
  induction n with
  | zero => intro w5 σ; exact bo_none
  | succ n ih =>
    intro w5 σ
    rw [mX2_pass_L36]
    refine bo_iload hx dX2_pass_36 5 rfl ?_
    refine bo_aload_n hx dX2_pass_38 rfl 1 rfl ?_
    refine gf_X2_71 hx hf1 dX2_pass_39 ?_
    refine bo_icmp_ge hx 76 dX2_pass_42 (by decide) ?_ ?_
    · refine bo_sub (L' := [(0, .ref (bo_a x f0)), (3, .int f3), (4, .int f4)]) [0, 3, 4] rfl ?_
      exact bo_arr (fun h => h)
    · refine bo_aload_n hx dX2_pass_45 rfl 0 rfl ?_
      refine gf_X2_9 hx hf0 dX2_pass_46 ?_
      refine bo_iload hx dX2_pass_49 5 rfl ?_
      refine bo_aload_n hx dX2_pass_51 rfl 0 rfl ?_
      refine gf_X2_9 hx hf0 dX2_pass_52 ?_
      refine bo_iload hx dX2_pass_55 5 rfl ?_
      refine bo_goR (z := false) hx (fun rr hh => bo_runS (As := [.ref (bo_a x (f0 + 1)), .int w5]) (S := [.int w5, .ref (bo_a x (f0 + 1))]) hx dX2_pass_57 lk_X2_59 ms_X8_at (kX8_at (bo_l x) (bo_g x) hx.inj σ 7 (f0 + 1) w5 hf0.a1 rr hh) ⟨by decide, by decide⟩ rfl rfl (Nat.le_of_ble_eq_true rfl)) (fun v7 hv7 => ?_)
      refine bo_iload_n hx dX2_pass_60 rfl 2 rfl ?_
      refine bo_iload hx dX2_pass_61 5 rfl ?_
      refine bo_goR (z := false) hx (fun rr hh => bo_runN (As := [.int f2, .int w5]) (S := [.int v7, .int w5, .ref (bo_a x (f0 + 1))]) hx dX2_pass_63 ne_X2_68 ms_X10_bit (kX10_bit (bo_l x) (bo_g x) hx.inj σ f2 w5 rr hh) ⟨by decide, by decide⟩ rfl rfl (Nat.le_of_ble_eq_true rfl)) (fun v8 hv8 => ?_)
      refine bo_iadd hx dX2_pass_66 ?_
      refine bo_goV hx (fun rr hh => bo_runS (As := [.ref (bo_a x (f0 + 1)), .int w5, .int (v7 + v8)]) (S := []) hx dX2_pass_67 lk_X2_118 ms_X8_put (kX8_put (bo_l x) (bo_g x) hx.inj σ 7 (f0 + 1) w5 (v7 + v8) hf0.a1 rr hh) ⟨by decide, by decide⟩ rfl rfl (Nat.le_of_ble_eq_true rfl)) (fun σ9 => ?_)
      refine bo_iinc (L' := [(5, .int (w5 + 1)), (0, .ref (bo_a x f0)), (1, .ref (bo_a x f1)), (2, .int f2), (3, .int f3), (4, .int f4)]) (w := (w5 + 1)) hx dX2_pass_70 5 rfl rfl (by decide) rfl ?_
      refine bo_goto hx 36 dX2_pass_73 (by decide) ?_
      refine bo_sub (L' := [(0, .ref (bo_a x f0)), (1, .ref (bo_a x f1)), (2, .int f2), (3, .int f3), (4, .int f4), (5, .int (w5 + 1))]) [1, 2, 3, 4, 5, 0] rfl ?_
      exact ih (w5 + 1) σ9
theorem bX2_pass (x : bo_X) (hx : bo_OK x cX2_pass RX2 6 3 70) (σ : bo_M) (o : Nat) (r1 : Nat) (ho : bo_isEv o) (hr1 : bo_isInn r1) : bo_D x 0 [(0, .ref (bo_a x o)), (1, .ref (bo_a x r1))] [] σ (mX2_pass σ o r1) (bo_Rw x cX2_pass false) := by
  unfold mX2_pass
  refine bo_aload_n hx dX2_pass_0 rfl 0 rfl ?_
  refine bo_aload_n hx dX2_pass_1 rfl 1 rfl ?_
  refine bo_goR (z := false) hx (fun rr hh => bo_runV (As := [.ref (bo_a x r1)]) (S := []) hx dX2_pass_2 lk_X2_106 mi_X2_thirsty ho.o rfl rfl (kX2_thirsty (bo_l x) (bo_g x) hx.inj σ o r1 ho hr1 rr hh) ⟨by decide, by decide⟩ rfl rfl (Nat.le_of_ble_eq_true rfl)) (fun v1 hv1 => ?_)
  refine bo_istore_n (L' := [(2, .int v1), (0, .ref (bo_a x o)), (1, .ref (bo_a x r1))]) hx dX2_pass_5 rfl (by decide) rfl ?_
  refine bo_iload_n hx dX2_pass_6 rfl 0 rfl ?_
  refine bo_goR (z := false) hx (fun rr hh => bo_runS (As := [.int v1]) (S := []) hx dX2_pass_7 lk_X2_109 ms_J6_bitCount_0f7a4 (kJ6_bitCount_0f7a4 (bo_l x) (bo_g x) hx.inj σ v1 rr hh) ⟨by decide, by decide⟩ rfl rfl (Nat.le_of_ble_eq_true rfl)) (fun v2 hv2 => ?_)
  refine bo_istore_n (L' := [(3, .int v2), (2, .int v1), (0, .ref (bo_a x o)), (1, .ref (bo_a x r1))]) hx dX2_pass_10 rfl (by decide) rfl ?_
  refine bo_aload_n hx dX2_pass_11 rfl 2 rfl ?_
  refine bo_aload_n hx dX2_pass_12 rfl 3 rfl ?_
  refine bo_iload_n hx dX2_pass_13 rfl 0 rfl ?_
  refine bo_goR (z := false) hx (fun rr hh => bo_runV (As := [.ref (bo_a x r1), .int v2]) (S := []) hx dX2_pass_14 lk_X2_115 mi_X2_heardOf ho.o rfl rfl (kX2_heardOf (bo_l x) (bo_g x) hx.inj σ o r1 v2 ho hr1 rr hh) ⟨by decide, by decide⟩ rfl rfl (Nat.le_of_ble_eq_true rfl)) (fun v3 hv3 => ?_)
  refine bo_istore (L' := [(4, .int v3), (3, .int v2), (2, .int v1), (0, .ref (bo_a x o)), (1, .ref (bo_a x r1))]) hx dX2_pass_17 (by decide) rfl ?_
  refine bo_aload_n hx dX2_pass_19 rfl 3 rfl ?_
  refine bo_goR (z := true) hx (fun rr hh => bo_runV (As := []) (S := []) hx dX2_pass_20 lk_X2_77 mi_X2_startsDay ho.o rfl rfl (kX2_startsDay (bo_l x) (bo_g x) hx.inj σ o ho rr hh) ⟨by decide, by decide⟩ rfl rfl (Nat.le_of_ble_eq_true rfl)) (fun v4 hv4 => ?_)
  refine bo_seq 33 (fun a => [(0, .ref (bo_a x o)), (1, .ref (bo_a x r1)), (2, .int v1), (3, .int v2), (4, .int v3)]) (fun a => []) (fun a => a) ?_ (fun a5 => ?_)
  · refine bo_if_eq hx 33 dX2_pass_23 (by decide) ?_ ?_
    · refine bo_sub (L' := [(0, .ref (bo_a x o)), (1, .ref (bo_a x r1)), (2, .int v1), (3, .int v2), (4, .int v3)]) [3, 4, 2, 1, 0] rfl ?_
      exact bo_arr (fun h => h)
    · refine bo_aload_n hx dX2_pass_26 rfl 3 rfl ?_
      refine gf_X2_9 hx ho dX2_pass_27 ?_
      refine bo_goV hx (fun rr hh => bo_runS (As := [.ref (bo_a x (o + 1))]) (S := []) hx dX2_pass_30 lk_X2_43 ms_X8_zero (kX8_zero (bo_l x) (bo_g x) hx.inj σ 7 (o + 1) ho.a1 rr hh) ⟨by decide, by decide⟩ rfl rfl (Nat.le_of_ble_eq_true rfl)) (fun σ6 => ?_)
      refine bo_sub (L' := [(0, .ref (bo_a x o)), (1, .ref (bo_a x r1)), (2, .int v1), (3, .int v2), (4, .int v3)]) [3, 4, 2, 1, 0] rfl ?_
      exact bo_arr (fun h => h)
  · refine bo_iconst (v := 0) hx dX2_pass_33 (by decide) ?_
    refine bo_istore (L' := [(5, .int 0), (0, .ref (bo_a x o)), (1, .ref (bo_a x r1)), (2, .int v1), (3, .int v2), (4, .int v3)]) hx dX2_pass_34 (by decide) rfl ?_
    refine bo_sub (L' := [(0, .ref (bo_a x o)), (1, .ref (bo_a x r1)), (2, .int v1), (3, .int v2), (4, .int v3), (5, .int 0)]) [1, 2, 3, 4, 5, 0] rfl ?_
    refine bo_seq 76 (fun a => [(0, .ref (bo_a x o)), (3, .int v2), (4, .int v3)]) (fun a => []) (fun a => a) (lX2_pass_L36 x hx o r1 v1 v2 v3 ho hr1 bo_fuel 0 a5) (fun a10 => ?_)
    refine bo_aload_n hx dX2_pass_76 rfl 0 rfl ?_
    refine bo_dup hx dX2_pass_77 rfl ?_
    refine gf_X2_37 hx ho dX2_pass_78 ?_
    refine bo_iload_n hx dX2_pass_81 rfl 1 rfl ?_
    refine bo_iadd hx dX2_pass_82 ?_
    refine pf_X2_37 hx ho dX2_pass_83 (fun σ11 => ?_)
    refine bo_aload_n hx dX2_pass_86 rfl 0 rfl ?_
    refine gf_X2_18 hx ho dX2_pass_87 ?_
    refine bo_aload_n hx dX2_pass_90 rfl 0 rfl ?_
    refine gf_X2_24 hx ho dX2_pass_91 ?_
    refine bo_bipush (v := 40) hx dX2_pass_94 (by decide) ?_
    refine bo_iremc hx dX2_pass_96 (by decide) ?_
    refine bo_iload hx dX2_pass_97 2 rfl ?_
    refine bo_goV hx (fun rr hh => bo_runS (As := [.ref (bo_a x (o + 3)), .int (bo_irm (σ11 o 4) 40), .int v3]) (S := []) hx dX2_pass_99 lk_X2_118 ms_X8_put (kX8_put (bo_l x) (bo_g x) hx.inj σ11 40 (o + 3) (bo_irm (σ11 o 4) 40) v3 ho.a3 rr hh) ⟨by decide, by decide⟩ rfl rfl (Nat.le_of_ble_eq_true rfl)) (fun σ12 => ?_)
    refine bo_aload_n hx dX2_pass_102 rfl 0 rfl ?_
    refine gf_X2_21 hx ho dX2_pass_103 ?_
    refine bo_aload_n hx dX2_pass_106 rfl 0 rfl ?_
    refine gf_X2_24 hx ho dX2_pass_107 ?_
    refine bo_bipush (v := 40) hx dX2_pass_110 (by decide) ?_
    refine bo_iremc hx dX2_pass_112 (by decide) ?_
    refine bo_iload_n hx dX2_pass_113 rfl 1 rfl ?_
    refine bo_goV hx (fun rr hh => bo_runS (As := [.ref (bo_a x (o + 4)), .int (bo_irm (σ12 o 4) 40), .int v2]) (S := []) hx dX2_pass_114 lk_X2_118 ms_X8_put (kX8_put (bo_l x) (bo_g x) hx.inj σ12 40 (o + 4) (bo_irm (σ12 o 4) 40) v2 ho.a4 rr hh) ⟨by decide, by decide⟩ rfl rfl (Nat.le_of_ble_eq_true rfl)) (fun σ13 => ?_)
    refine bo_iload hx dX2_pass_117 2 rfl ?_
    refine bo_iconst (v := 1) hx dX2_pass_119 (by decide) ?_
    refine bo_seq 136 (fun a => [(0, .ref (bo_a x o)), (4, .int v3)]) (fun a => []) (fun a => a) ?_ (fun a14 => ?_)
    · refine bo_icmp_lt hx 136 dX2_pass_120 (by decide) ?_ ?_
      · refine bo_sub (L' := [(0, .ref (bo_a x o)), (4, .int v3)]) [0, 2] rfl ?_
        exact bo_arr (fun h => h)
      · refine bo_aload_n hx dX2_pass_123 rfl 0 rfl ?_
        refine bo_aload_n hx dX2_pass_124 rfl 0 rfl ?_
        refine gf_X2_31 hx ho dX2_pass_125 ?_
        refine bo_iconst (v := 1) hx dX2_pass_128 (by decide) ?_
        refine bo_iadd hx dX2_pass_129 ?_
        refine bo_bipush (v := 12) hx dX2_pass_130 (by decide) ?_
        refine bo_iremc hx dX2_pass_132 (by decide) ?_
        refine pf_X2_31 hx ho dX2_pass_133 (fun σ15 => ?_)
        refine bo_sub (L' := [(0, .ref (bo_a x o)), (4, .int v3)]) [0, 2] rfl ?_
        exact bo_arr (fun h => h)
    · refine bo_aload_n hx dX2_pass_136 rfl 0 rfl ?_
      refine bo_iconst (v := 0) hx dX2_pass_137 (by decide) ?_
      refine bo_aload_n hx dX2_pass_138 rfl 0 rfl ?_
      refine gf_X2_34 hx ho dX2_pass_139 ?_
      refine bo_iconst (v := 1) hx dX2_pass_142 (by decide) ?_
      refine bo_isub hx dX2_pass_143 ?_
      refine bo_max hx dX2_pass_144 lk_X2_122 mm_max_1 mm_i mm_max_2 (by decide) (Nat.le_of_ble_eq_true rfl) ?_
      refine pf_X2_34 hx ho dX2_pass_147 (fun σ16 => ?_)
      refine bo_aload_n hx dX2_pass_150 rfl 0 rfl ?_
      refine bo_dup hx dX2_pass_151 rfl ?_
      refine gf_X2_24 hx ho dX2_pass_152 ?_
      refine bo_iconst (v := 1) hx dX2_pass_155 (by decide) ?_
      refine bo_iadd hx dX2_pass_156 ?_
      refine pf_X2_24 hx ho dX2_pass_157 (fun σ17 => ?_)
      refine bo_iload hx dX2_pass_160 1 rfl ?_
      exact bo_retw dX2_pass_162 (fun h => by cases h)
theorem kX2_pass (l : Launch) (g : bo_G) (hi : bo_inj g) (σ : bo_M) (o : Nat) (r1 : Nat) (ho : bo_isEv o) (hr1 : bo_isInn r1) : bo_CW l g yX2_pass cX2_pass 6 (some .int) 3 70 [.ref (g.2.2 o), .ref (g.2.2 r1)] σ false (mX2_pass σ o r1) :=
  bo_metW rfl (Or.inl ⟨rfl, rfl⟩) (by decide) rfl hi (Nat.le_of_ble_eq_true rfl) (fun x e1 e2 hx => by subst e1; subst e2; exact bX2_pass x hx σ o r1 ho hr1)
-- BellRope.quarter
theorem dX10_quarter_0 : decode cX10_quarter 0 = .ok (.aload_n 0, 1) := by decide +kernel
theorem dX10_quarter_1 : decode cX10_quarter 1 = .ok (.iload_n 1, 1) := by decide +kernel
theorem dX10_quarter_2 : decode cX10_quarter 2 = .ok (.invokevirtual 198, 3) := by decide +kernel
theorem dX10_quarter_5 : decode cX10_quarter 5 = .ok (.istore_n 2, 1) := by decide +kernel
theorem dX10_quarter_6 : decode cX10_quarter 6 = .ok (.iload_n 2, 1) := by decide +kernel
theorem dX10_quarter_12 : decode cX10_quarter 12 = .ok (.aload_n 0, 1) := by decide +kernel
theorem dX10_quarter_13 : decode cX10_quarter 13 = .ok (.getfield 26, 3) := by decide +kernel
theorem dX10_quarter_16 : decode cX10_quarter 16 = .ok (.aload_n 0, 1) := by decide +kernel
theorem dX10_quarter_17 : decode cX10_quarter 17 = .ok (.getfield 19, 3) := by decide +kernel
theorem dX10_quarter_20 : decode cX10_quarter 20 = .ok (.invokevirtual 201, 3) := by decide +kernel
theorem dX10_quarter_23 : decode cX10_quarter 23 = .ok (.iconst 0, 1) := by decide +kernel
theorem dX10_quarter_24 : decode cX10_quarter 24 = .ok (.istore_n 3, 1) := by decide +kernel
theorem dX10_quarter_25 : decode cX10_quarter 25 = .ok (.iconst 0, 1) := by decide +kernel
theorem dX10_quarter_26 : decode cX10_quarter 26 = .ok (.istore 4, 2) := by decide +kernel
theorem dX10_quarter_28 : decode cX10_quarter 28 = .ok (.iload 4, 2) := by decide +kernel
theorem dX10_quarter_30 : decode cX10_quarter 30 = .ok (.iload_n 1, 1) := by decide +kernel
theorem dX10_quarter_34 : decode cX10_quarter 34 = .ok (.aload_n 0, 1) := by decide +kernel
theorem dX10_quarter_35 : decode cX10_quarter 35 = .ok (.getfield 19, 3) := by decide +kernel
theorem dX10_quarter_38 : decode cX10_quarter 38 = .ok (.aload_n 0, 1) := by decide +kernel
theorem dX10_quarter_39 : decode cX10_quarter 39 = .ok (.getfield 71, 3) := by decide +kernel
theorem dX10_quarter_42 : decode cX10_quarter 42 = .ok (.invokevirtual 205, 3) := by decide +kernel
theorem dX10_quarter_45 : decode cX10_quarter 45 = .ok (.istore_n 3, 1) := by decide +kernel
theorem dX10_quarter_46 : decode cX10_quarter 46 = .ok (.iinc 4 1, 3) := by decide +kernel
theorem dX10_quarter_49 : decode cX10_quarter 49 = .ok (.goto (-21), 3) := by decide +kernel
theorem dX10_quarter_31 : decode cX10_quarter 31 = .ok (.if_icmp .ge 21, 3) := by decide +kernel
theorem dX10_quarter_52 : decode cX10_quarter 52 = .ok (.iload_n 3, 1) := by decide +kernel
theorem dX10_quarter_53 : decode cX10_quarter 53 = .ok (.ireturn, 1) := by decide +kernel
theorem dX10_quarter_10 : decode cX10_quarter 10 = .ok (.iload_n 2, 1) := by decide +kernel
theorem dX10_quarter_11 : decode cX10_quarter 11 = .ok (.ireturn, 1) := by decide +kernel
theorem dX10_quarter_7 : decode cX10_quarter 7 = .ok (.ifCond .eq 5, 3) := by decide +kernel
theorem lX10_quarter_L28 (x : bo_X) (hx : bo_OK x cX10_quarter RX10 5 4 95) (f1 : Int32) : ∀ (n : Nat) (w3 : Int32) (w4 : Int32) (σ : bo_M), bo_D x 28 [(0, .ref (bo_a x 0)), (1, .int f1), (3, .int w3), (4, .int w4)] [] σ (mX10_quarter_L28 f1 n w3 w4 σ) (fun a => bo_N x 52 [(3, .int a.1)] [] a.2) := by
  intro n
  induction n with
  | zero => intro w3 w4 σ; exact bo_none
  | succ n ih =>
    intro w3 w4 σ
    rw [mX10_quarter_L28]
    refine bo_iload hx dX10_quarter_28 3 rfl ?_
    refine bo_iload_n hx dX10_quarter_30 rfl 1 rfl ?_
    refine bo_icmp_ge hx 52 dX10_quarter_31 (by decide) ?_ ?_
    · refine bo_sub (L' := [(3, .int w3)]) [2] rfl ?_
      exact bo_arr (fun h => h)
    · refine bo_aload_n hx dX10_quarter_34 rfl 0 rfl ?_
      refine gf_X10_19 hx dX10_quarter_35 ?_
      refine bo_aload_n hx dX10_quarter_38 rfl 0 rfl ?_
      refine gf_X10_71 hx dX10_quarter_39 ?_
      refine bo_goW (z := false) hx (fun rr hh => bo_runV (As := [.ref (bo_a x (bo_inn (σ 0 9)))]) (S := []) hx dX10_quarter_42 lk_X10_205 mi_X2_pass bo_ev50.o rfl rfl (kX2_pass (bo_l x) (bo_g x) hx.inj σ 50 (bo_inn (σ 0 9)) bo_ev50 (bo_inn_ok (σ 0 9)) rr hh) ⟨by decide, by decide⟩ rfl rfl (Nat.le_of_ble_eq_true rfl)) (fun a3 ha3 => ?_)
      refine bo_istore_n (L' := [(3, .int a3.1), (0, .ref (bo_a x 0)), (1, .int f1), (4, .int w4)]) hx dX10_quarter_45 rfl (by decide) rfl ?_
      refine bo_iinc (L' := [(4, .int (w4 + 1)), (3, .int a3.1), (0, .ref (bo_a x 0)), (1, .int f1)]) (w := (w4 + 1)) hx dX10_quarter_46 3 rfl rfl (by decide) rfl ?_
      refine bo_goto hx 28 dX10_quarter_49 (by decide) ?_
      refine bo_sub (L' := [(0, .ref (bo_a x 0)), (1, .int f1), (3, .int a3.1), (4, .int (w4 + 1))]) [2, 3, 1, 0] rfl ?_
      exact ih a3.1 (w4 + 1) a3.2
theorem bX10_quarter (x : bo_X) (hx : bo_OK x cX10_quarter RX10 5 4 95) (σ : bo_M) (p1 : Int32) : bo_D x 0 [(0, .ref (bo_a x 0)), (1, .int p1)] [] σ (mX10_quarter σ p1) (bo_Rw x cX10_quarter false) := by
  unfold mX10_quarter
  refine bo_aload_n hx dX10_quarter_0 rfl 0 rfl ?_
  refine bo_iload_n hx dX10_quarter_1 rfl 1 rfl ?_
  refine bo_goR (z := false) hx (fun rr hh => bo_runV (As := [.int p1]) (S := []) hx dX10_quarter_2 lk_X10_198 mi_X10_refusedQuarters bo_o_0 rfl rfl (kX10_refusedQuarters (bo_l x) (bo_g x) hx.inj σ p1 rr hh) ⟨by decide, by decide⟩ rfl rfl (Nat.le_of_ble_eq_true rfl)) (fun v1 hv1 => ?_)
  refine bo_istore_n (L' := [(2, .int v1), (0, .ref (bo_a x 0)), (1, .int p1)]) hx dX10_quarter_5 rfl (by decide) rfl ?_
  refine bo_iload_n hx dX10_quarter_6 rfl 0 rfl ?_
  refine bo_if_eq hx 12 dX10_quarter_7 (by decide) ?_ ?_
  · refine bo_aload_n hx dX10_quarter_12 rfl 1 rfl ?_
    refine gf_X10_26 hx dX10_quarter_13 ?_
    refine bo_aload_n hx dX10_quarter_16 rfl 1 rfl ?_
    refine gf_X10_19 hx dX10_quarter_17 ?_
    refine bo_goV hx (fun rr hh => bo_runV (As := [.ref (bo_a x 50)]) (S := []) hx dX10_quarter_20 lk_X10_201 mi_X6_note bo_o_3 rfl rfl (kX6_note (bo_l x) (bo_g x) hx.inj σ 50 bo_ev50 rr hh) ⟨by decide, by decide⟩ rfl rfl (Nat.le_of_ble_eq_true rfl)) (fun σ2 => ?_)
    refine bo_iconst (v := 0) hx dX10_quarter_23 (by decide) ?_
    refine bo_istore_n (L' := [(3, .int 0), (2, .int v1), (0, .ref (bo_a x 0)), (1, .int p1)]) hx dX10_quarter_24 rfl (by decide) rfl ?_
    refine bo_iconst (v := 0) hx dX10_quarter_25 (by decide) ?_
    refine bo_istore (L' := [(4, .int 0), (3, .int 0), (2, .int v1), (0, .ref (bo_a x 0)), (1, .int p1)]) hx dX10_quarter_26 (by decide) rfl ?_
    refine bo_sub (L' := [(0, .ref (bo_a x 0)), (1, .int p1), (3, .int 0), (4, .int 0)]) [3, 4, 1, 0] rfl ?_
    refine bo_seq 52 (fun a => [(3, .int a.1)]) (fun a => []) (fun a => a.2) (lX10_quarter_L28 x hx p1 bo_fuel 0 0 σ2) (fun a4 => ?_)
    refine bo_iload_n hx dX10_quarter_52 rfl 0 rfl ?_
    exact bo_retw dX10_quarter_53 (fun h => by cases h)
  · refine bo_iload_n hx dX10_quarter_10 rfl 0 rfl ?_
    exact bo_retw dX10_quarter_11 (fun h => by cases h)
theorem kX10_quarter (l : Launch) (g : bo_G) (hi : bo_inj g) (σ : bo_M) (p1 : Int32) : bo_CW l g yX10_quarter cX10_quarter 5 (some .int) 4 95 [.ref (g.2.2 0), .int p1] σ false (mX10_quarter σ p1) :=
  bo_metW rfl (Or.inl ⟨rfl, rfl⟩) (by decide) rfl hi (Nat.le_of_ble_eq_true rfl) (fun x e1 e2 hx => by subst e1; subst e2; exact bX10_quarter x hx σ p1)
-- BellRope.come
theorem dX10_come_0 : decode cX10_come 0 = .ok (.aload_n 0, 1) := by decide +kernel
theorem dX10_come_1 : decode cX10_come 1 = .ok (.getfield 71, 3) := by decide +kernel
theorem dX10_come_4 : decode cX10_come 4 = .ok (.iload_n 1, 1) := by decide +kernel
theorem dX10_come_5 : decode cX10_come 5 = .ok (.invokevirtual 146, 3) := by decide +kernel
theorem dX10_come_14 : decode cX10_come 14 = .ok (.aload_n 0, 1) := by decide +kernel
theorem dX10_come_15 : decode cX10_come 15 = .ok (.getfield 19, 3) := by decide +kernel
theorem dX10_come_18 : decode cX10_come 18 = .ok (.getfield 123, 3) := by decide +kernel
theorem dX10_come_21 : decode cX10_come 21 = .ok (.iload_n 1, 1) := by decide +kernel
theorem dX10_come_22 : decode cX10_come 22 = .ok (.invokestatic 166, 3) := by decide +kernel
theorem dX10_come_25 : decode cX10_come 25 = .ok (.iconst 1, 1) := by decide +kernel
theorem dX10_come_32 : decode cX10_come 32 = .ok (.aload_n 0, 1) := by decide +kernel
theorem dX10_come_33 : decode cX10_come 33 = .ok (.getfield 26, 3) := by decide +kernel
theorem dX10_come_36 : decode cX10_come 36 = .ok (.aload_n 0, 1) := by decide +kernel
theorem dX10_come_37 : decode cX10_come 37 = .ok (.getfield 19, 3) := by decide +kernel
theorem dX10_come_40 : decode cX10_come 40 = .ok (.invokevirtual 201, 3) := by decide +kernel
theorem dX10_come_43 : decode cX10_come 43 = .ok (.aload_n 0, 1) := by decide +kernel
theorem dX10_come_44 : decode cX10_come 44 = .ok (.getfield 19, 3) := by decide +kernel
theorem dX10_come_47 : decode cX10_come 47 = .ok (.dup, 1) := by decide +kernel
theorem dX10_come_48 : decode cX10_come 48 = .ok (.getfield 123, 3) := by decide +kernel
theorem dX10_come_51 : decode cX10_come 51 = .ok (.iconst 1, 1) := by decide +kernel
theorem dX10_come_52 : decode cX10_come 52 = .ok (.iload_n 1, 1) := by decide +kernel
theorem dX10_come_53 : decode cX10_come 53 = .ok (.ishl, 1) := by decide +kernel
theorem dX10_come_54 : decode cX10_come 54 = .ok (.ior, 1) := by decide +kernel
theorem dX10_come_55 : decode cX10_come 55 = .ok (.putfield 123, 3) := by decide +kernel
theorem dX10_come_58 : decode cX10_come 58 = .ok (.aload_n 0, 1) := by decide +kernel
theorem dX10_come_59 : decode cX10_come 59 = .ok (.getfield 19, 3) := by decide +kernel
theorem dX10_come_62 : decode cX10_come 62 = .ok (.getfield 123, 3) := by decide +kernel
theorem dX10_come_65 : decode cX10_come 65 = .ok (.ireturn, 1) := by decide +kernel
theorem dX10_come_29 : decode cX10_come 29 = .ok (.ldc 208, 2) := by decide +kernel
theorem dX10_come_31 : decode cX10_come 31 = .ok (.ireturn, 1) := by decide +kernel
theorem dX10_come_26 : decode cX10_come 26 = .ok (.if_icmp .ne 6, 3) := by decide +kernel
theorem dX10_come_11 : decode cX10_come 11 = .ok (.ldc 149, 2) := by decide +kernel
theorem dX10_come_13 : decode cX10_come 13 = .ok (.ireturn, 1) := by decide +kernel
theorem dX10_come_8 : decode cX10_come 8 = .ok (.ifCond .ne 6, 3) := by decide +kernel
theorem bX10_come (x : bo_X) (hx : bo_OK x cX10_come RX10 2 3 65) (σ : bo_M) (p1 : Int32) : bo_D x 0 [(0, .ref (bo_a x 0)), (1, .int p1)] [] σ (mX10_come σ p1) (bo_Rw x cX10_come false) := by
  unfold mX10_come
  refine bo_aload_n hx dX10_come_0 rfl 0 rfl ?_
  refine gf_X10_71 hx dX10_come_1 ?_
  refine bo_iload_n hx dX10_come_4 rfl 1 rfl ?_
  refine bo_goR (z := true) hx (fun rr hh => bo_runV (As := [.int p1]) (S := []) hx dX10_come_5 lk_X10_146 mi_X4_hasDrinker (bo_inn_ok (σ 0 9)).o rfl rfl (kX4_hasDrinker (bo_l x) (bo_g x) hx.inj σ (bo_inn (σ 0 9)) p1 (bo_inn_ok (σ 0 9)) rr hh) ⟨by decide, by decide⟩ rfl rfl (Nat.le_of_ble_eq_true rfl)) (fun v1 hv1 => ?_)
  refine bo_if_ne hx 14 dX10_come_8 (by decide) ?_ ?_
  · refine bo_aload_n hx dX10_come_14 rfl 0 rfl ?_
    refine gf_X10_19 hx dX10_come_15 ?_
    refine gf_X10_123 hx bo_ev50 dX10_come_18 ?_
    refine bo_iload_n hx dX10_come_21 rfl 1 rfl ?_
    refine bo_goR (z := false) hx (fun rr hh => bo_runS (As := [.int (σ 50 5), .int p1]) (S := []) hx dX10_come_22 lk_X10_166 ms_X10_bit (kX10_bit (bo_l x) (bo_g x) hx.inj σ (σ 50 5) p1 rr hh) ⟨by decide, by decide⟩ rfl rfl (Nat.le_of_ble_eq_true rfl)) (fun v2 hv2 => ?_)
    refine bo_iconst (v := 1) hx dX10_come_25 (by decide) ?_
    refine bo_icmp_ne hx 32 dX10_come_26 (by decide) ?_ ?_
    · refine bo_aload_n hx dX10_come_32 rfl 0 rfl ?_
      refine gf_X10_26 hx dX10_come_33 ?_
      refine bo_aload_n hx dX10_come_36 rfl 0 rfl ?_
      refine gf_X10_19 hx dX10_come_37 ?_
      refine bo_goV hx (fun rr hh => bo_runV (As := [.ref (bo_a x 50)]) (S := []) hx dX10_come_40 lk_X10_201 mi_X6_note bo_o_3 rfl rfl (kX6_note (bo_l x) (bo_g x) hx.inj σ 50 bo_ev50 rr hh) ⟨by decide, by decide⟩ rfl rfl (Nat.le_of_ble_eq_true rfl)) (fun σ3 => ?_)
      refine bo_aload_n hx dX10_come_43 rfl 0 rfl ?_
      refine gf_X10_19 hx dX10_come_44 ?_
      refine bo_dup hx dX10_come_47 rfl ?_
      refine gf_X10_123 hx bo_ev50 dX10_come_48 ?_
      refine bo_iconst (v := 1) hx dX10_come_51 (by decide) ?_
      refine bo_iload_n hx dX10_come_52 rfl 1 rfl ?_
      refine bo_ishl hx dX10_come_53 ?_
      refine bo_ior hx dX10_come_54 ?_
      refine pf_X10_123 hx bo_ev50 dX10_come_55 (fun σ4 => ?_)
      refine bo_aload_n hx dX10_come_58 rfl 0 rfl ?_
      refine gf_X10_19 hx dX10_come_59 ?_
      refine gf_X10_123 hx bo_ev50 dX10_come_62 ?_
      exact bo_retw dX10_come_65 (fun h => by cases h)
    · refine bo_ldc (v := (-1000000003)) hx dX10_come_29 wc_X10_208 ?_
      exact bo_retw dX10_come_31 (fun h => by cases h)
  · refine bo_ldc (v := (-1000000001)) hx dX10_come_11 wc_X10_149 ?_
    exact bo_retw dX10_come_13 (fun h => by cases h)
theorem kX10_come (l : Launch) (g : bo_G) (hi : bo_inj g) (σ : bo_M) (p1 : Int32) : bo_CW l g yX10_come cX10_come 2 (some .int) 3 65 [.ref (g.2.2 0), .int p1] σ false (mX10_come σ p1) :=
  bo_metW rfl (Or.inl ⟨rfl, rfl⟩) (by decide) rfl hi (Nat.le_of_ble_eq_true rfl) (fun x e1 e2 hx => by subst e1; subst e2; exact bX10_come x hx σ p1)
-- BellRope.go
theorem dX10_go_0 : decode cX10_go 0 = .ok (.aload_n 0, 1) := by decide +kernel
theorem dX10_go_1 : decode cX10_go 1 = .ok (.getfield 71, 3) := by decide +kernel
theorem dX10_go_4 : decode cX10_go 4 = .ok (.iload_n 1, 1) := by decide +kernel
theorem dX10_go_5 : decode cX10_go 5 = .ok (.invokevirtual 146, 3) := by decide +kernel
theorem dX10_go_14 : decode cX10_go 14 = .ok (.aload_n 0, 1) := by decide +kernel
theorem dX10_go_15 : decode cX10_go 15 = .ok (.getfield 19, 3) := by decide +kernel
theorem dX10_go_18 : decode cX10_go 18 = .ok (.getfield 123, 3) := by decide +kernel
theorem dX10_go_21 : decode cX10_go 21 = .ok (.iload_n 1, 1) := by decide +kernel
theorem dX10_go_22 : decode cX10_go 22 = .ok (.invokestatic 166, 3) := by decide +kernel
theorem dX10_go_31 : decode cX10_go 31 = .ok (.aload_n 0, 1) := by decide +kernel
theorem dX10_go_32 : decode cX10_go 32 = .ok (.getfield 26, 3) := by decide +kernel
theorem dX10_go_35 : decode cX10_go 35 = .ok (.aload_n 0, 1) := by decide +kernel
theorem dX10_go_36 : decode cX10_go 36 = .ok (.getfield 19, 3) := by decide +kernel
theorem dX10_go_39 : decode cX10_go 39 = .ok (.invokevirtual 201, 3) := by decide +kernel
theorem dX10_go_42 : decode cX10_go 42 = .ok (.aload_n 0, 1) := by decide +kernel
theorem dX10_go_43 : decode cX10_go 43 = .ok (.getfield 19, 3) := by decide +kernel
theorem dX10_go_46 : decode cX10_go 46 = .ok (.dup, 1) := by decide +kernel
theorem dX10_go_47 : decode cX10_go 47 = .ok (.getfield 123, 3) := by decide +kernel
theorem dX10_go_50 : decode cX10_go 50 = .ok (.iconst 1, 1) := by decide +kernel
theorem dX10_go_51 : decode cX10_go 51 = .ok (.iload_n 1, 1) := by decide +kernel
theorem dX10_go_52 : decode cX10_go 52 = .ok (.ishl, 1) := by decide +kernel
theorem dX10_go_53 : decode cX10_go 53 = .ok (.iconst (-1), 1) := by decide +kernel
theorem dX10_go_54 : decode cX10_go 54 = .ok (.ixor, 1) := by decide +kernel
theorem dX10_go_55 : decode cX10_go 55 = .ok (.iand, 1) := by decide +kernel
theorem dX10_go_56 : decode cX10_go 56 = .ok (.putfield 123, 3) := by decide +kernel
theorem dX10_go_59 : decode cX10_go 59 = .ok (.aload_n 0, 1) := by decide +kernel
theorem dX10_go_60 : decode cX10_go 60 = .ok (.getfield 19, 3) := by decide +kernel
theorem dX10_go_63 : decode cX10_go 63 = .ok (.getfield 123, 3) := by decide +kernel
theorem dX10_go_66 : decode cX10_go 66 = .ok (.ireturn, 1) := by decide +kernel
theorem dX10_go_28 : decode cX10_go 28 = .ok (.ldc 208, 2) := by decide +kernel
theorem dX10_go_30 : decode cX10_go 30 = .ok (.ireturn, 1) := by decide +kernel
theorem dX10_go_25 : decode cX10_go 25 = .ok (.ifCond .ne 6, 3) := by decide +kernel
theorem dX10_go_11 : decode cX10_go 11 = .ok (.ldc 149, 2) := by decide +kernel
theorem dX10_go_13 : decode cX10_go 13 = .ok (.ireturn, 1) := by decide +kernel
theorem dX10_go_8 : decode cX10_go 8 = .ok (.ifCond .ne 6, 3) := by decide +kernel
theorem bX10_go (x : bo_X) (hx : bo_OK x cX10_go RX10 2 3 65) (σ : bo_M) (p1 : Int32) : bo_D x 0 [(0, .ref (bo_a x 0)), (1, .int p1)] [] σ (mX10_go σ p1) (bo_Rw x cX10_go false) := by
  unfold mX10_go
  refine bo_aload_n hx dX10_go_0 rfl 0 rfl ?_
  refine gf_X10_71 hx dX10_go_1 ?_
  refine bo_iload_n hx dX10_go_4 rfl 1 rfl ?_
  refine bo_goR (z := true) hx (fun rr hh => bo_runV (As := [.int p1]) (S := []) hx dX10_go_5 lk_X10_146 mi_X4_hasDrinker (bo_inn_ok (σ 0 9)).o rfl rfl (kX4_hasDrinker (bo_l x) (bo_g x) hx.inj σ (bo_inn (σ 0 9)) p1 (bo_inn_ok (σ 0 9)) rr hh) ⟨by decide, by decide⟩ rfl rfl (Nat.le_of_ble_eq_true rfl)) (fun v1 hv1 => ?_)
  refine bo_if_ne hx 14 dX10_go_8 (by decide) ?_ ?_
  · refine bo_aload_n hx dX10_go_14 rfl 0 rfl ?_
    refine gf_X10_19 hx dX10_go_15 ?_
    refine gf_X10_123 hx bo_ev50 dX10_go_18 ?_
    refine bo_iload_n hx dX10_go_21 rfl 1 rfl ?_
    refine bo_goR (z := false) hx (fun rr hh => bo_runS (As := [.int (σ 50 5), .int p1]) (S := []) hx dX10_go_22 lk_X10_166 ms_X10_bit (kX10_bit (bo_l x) (bo_g x) hx.inj σ (σ 50 5) p1 rr hh) ⟨by decide, by decide⟩ rfl rfl (Nat.le_of_ble_eq_true rfl)) (fun v2 hv2 => ?_)
    refine bo_if_ne hx 31 dX10_go_25 (by decide) ?_ ?_
    · refine bo_aload_n hx dX10_go_31 rfl 0 rfl ?_
      refine gf_X10_26 hx dX10_go_32 ?_
      refine bo_aload_n hx dX10_go_35 rfl 0 rfl ?_
      refine gf_X10_19 hx dX10_go_36 ?_
      refine bo_goV hx (fun rr hh => bo_runV (As := [.ref (bo_a x 50)]) (S := []) hx dX10_go_39 lk_X10_201 mi_X6_note bo_o_3 rfl rfl (kX6_note (bo_l x) (bo_g x) hx.inj σ 50 bo_ev50 rr hh) ⟨by decide, by decide⟩ rfl rfl (Nat.le_of_ble_eq_true rfl)) (fun σ3 => ?_)
      refine bo_aload_n hx dX10_go_42 rfl 0 rfl ?_
      refine gf_X10_19 hx dX10_go_43 ?_
      refine bo_dup hx dX10_go_46 rfl ?_
      refine gf_X10_123 hx bo_ev50 dX10_go_47 ?_
      refine bo_iconst (v := 1) hx dX10_go_50 (by decide) ?_
      refine bo_iload_n hx dX10_go_51 rfl 1 rfl ?_
      refine bo_ishl hx dX10_go_52 ?_
      refine bo_iconst (v := (-1)) hx dX10_go_53 (by decide) ?_
      refine bo_ixor hx dX10_go_54 ?_
      refine bo_iand hx dX10_go_55 ?_
      refine pf_X10_123 hx bo_ev50 dX10_go_56 (fun σ4 => ?_)
      refine bo_aload_n hx dX10_go_59 rfl 0 rfl ?_
      refine gf_X10_19 hx dX10_go_60 ?_
      refine gf_X10_123 hx bo_ev50 dX10_go_63 ?_
      exact bo_retw dX10_go_66 (fun h => by cases h)
    · refine bo_ldc (v := (-1000000003)) hx dX10_go_28 wc_X10_208 ?_
      exact bo_retw dX10_go_30 (fun h => by cases h)
  · refine bo_ldc (v := (-1000000001)) hx dX10_go_11 wc_X10_149 ?_
    exact bo_retw dX10_go_13 (fun h => by cases h)
theorem kX10_go (l : Launch) (g : bo_G) (hi : bo_inj g) (σ : bo_M) (p1 : Int32) : bo_CW l g yX10_go cX10_go 2 (some .int) 3 65 [.ref (g.2.2 0), .int p1] σ false (mX10_go σ p1) :=
  bo_metW rfl (Or.inl ⟨rfl, rfl⟩) (by decide) rfl hi (Nat.le_of_ble_eq_true rfl) (fun x e1 e2 hx => by subst e1; subst e2; exact bX10_go x hx σ p1)
-- BellRope.treat
theorem dX10_treat_0 : decode cX10_treat 0 = .ok (.aload_n 0, 1) := by decide +kernel
theorem dX10_treat_1 : decode cX10_treat 1 = .ok (.getfield 71, 3) := by decide +kernel
theorem dX10_treat_4 : decode cX10_treat 4 = .ok (.iload_n 1, 1) := by decide +kernel
theorem dX10_treat_5 : decode cX10_treat 5 = .ok (.invokevirtual 146, 3) := by decide +kernel
theorem dX10_treat_14 : decode cX10_treat 14 = .ok (.iload_n 2, 1) := by decide +kernel
theorem dX10_treat_15 : decode cX10_treat 15 = .ok (.iconst 1, 1) := by decide +kernel
theorem dX10_treat_25 : decode cX10_treat 25 = .ok (.ldc 78, 2) := by decide +kernel
theorem dX10_treat_27 : decode cX10_treat 27 = .ok (.ireturn, 1) := by decide +kernel
theorem dX10_treat_19 : decode cX10_treat 19 = .ok (.iload_n 2, 1) := by decide +kernel
theorem dX10_treat_20 : decode cX10_treat 20 = .ok (.bipush 20, 2) := by decide +kernel
theorem dX10_treat_28 : decode cX10_treat 28 = .ok (.aload_n 0, 1) := by decide +kernel
theorem dX10_treat_29 : decode cX10_treat 29 = .ok (.getfield 26, 3) := by decide +kernel
theorem dX10_treat_32 : decode cX10_treat 32 = .ok (.aload_n 0, 1) := by decide +kernel
theorem dX10_treat_33 : decode cX10_treat 33 = .ok (.getfield 19, 3) := by decide +kernel
theorem dX10_treat_36 : decode cX10_treat 36 = .ok (.invokevirtual 201, 3) := by decide +kernel
theorem dX10_treat_39 : decode cX10_treat 39 = .ok (.iconst 0, 1) := by decide +kernel
theorem dX10_treat_40 : decode cX10_treat 40 = .ok (.aload_n 0, 1) := by decide +kernel
theorem dX10_treat_41 : decode cX10_treat 41 = .ok (.getfield 19, 3) := by decide +kernel
theorem dX10_treat_44 : decode cX10_treat 44 = .ok (.getfield 170, 3) := by decide +kernel
theorem dX10_treat_47 : decode cX10_treat 47 = .ok (.iload_n 1, 1) := by decide +kernel
theorem dX10_treat_48 : decode cX10_treat 48 = .ok (.invokestatic 154, 3) := by decide +kernel
theorem dX10_treat_51 : decode cX10_treat 51 = .ok (.iload_n 2, 1) := by decide +kernel
theorem dX10_treat_52 : decode cX10_treat 52 = .ok (.isub, 1) := by decide +kernel
theorem dX10_treat_53 : decode cX10_treat 53 = .ok (.invokestatic 209, 3) := by decide +kernel
theorem dX10_treat_56 : decode cX10_treat 56 = .ok (.istore_n 3, 1) := by decide +kernel
theorem dX10_treat_57 : decode cX10_treat 57 = .ok (.aload_n 0, 1) := by decide +kernel
theorem dX10_treat_58 : decode cX10_treat 58 = .ok (.getfield 19, 3) := by decide +kernel
theorem dX10_treat_61 : decode cX10_treat 61 = .ok (.getfield 170, 3) := by decide +kernel
theorem dX10_treat_64 : decode cX10_treat 64 = .ok (.iload_n 1, 1) := by decide +kernel
theorem dX10_treat_65 : decode cX10_treat 65 = .ok (.iload_n 3, 1) := by decide +kernel
theorem dX10_treat_66 : decode cX10_treat 66 = .ok (.invokestatic 214, 3) := by decide +kernel
theorem dX10_treat_69 : decode cX10_treat 69 = .ok (.iload_n 3, 1) := by decide +kernel
theorem dX10_treat_70 : decode cX10_treat 70 = .ok (.ireturn, 1) := by decide +kernel
theorem dX10_treat_22 : decode cX10_treat 22 = .ok (.if_icmp .le 6, 3) := by decide +kernel
theorem dX10_treat_16 : decode cX10_treat 16 = .ok (.if_icmp .lt 9, 3) := by decide +kernel
theorem dX10_treat_11 : decode cX10_treat 11 = .ok (.ldc 149, 2) := by decide +kernel
theorem dX10_treat_13 : decode cX10_treat 13 = .ok (.ireturn, 1) := by decide +kernel
theorem dX10_treat_8 : decode cX10_treat 8 = .ok (.ifCond .ne 6, 3) := by decide +kernel
theorem bX10_treat (x : bo_X) (hx : bo_OK x cX10_treat RX10 4 3 65) (σ : bo_M) (p1 : Int32) (p2 : Int32) : bo_D x 0 [(0, .ref (bo_a x 0)), (1, .int p1), (2, .int p2)] [] σ (mX10_treat σ p1 p2) (bo_Rw x cX10_treat false) := by
  unfold mX10_treat
  refine bo_aload_n hx dX10_treat_0 rfl 0 rfl ?_
  refine gf_X10_71 hx dX10_treat_1 ?_
  refine bo_iload_n hx dX10_treat_4 rfl 1 rfl ?_
  refine bo_goR (z := true) hx (fun rr hh => bo_runV (As := [.int p1]) (S := []) hx dX10_treat_5 lk_X10_146 mi_X4_hasDrinker (bo_inn_ok (σ 0 9)).o rfl rfl (kX4_hasDrinker (bo_l x) (bo_g x) hx.inj σ (bo_inn (σ 0 9)) p1 (bo_inn_ok (σ 0 9)) rr hh) ⟨by decide, by decide⟩ rfl rfl (Nat.le_of_ble_eq_true rfl)) (fun v1 hv1 => ?_)
  refine bo_if_ne hx 14 dX10_treat_8 (by decide) ?_ ?_
  · refine bo_iload_n hx dX10_treat_14 rfl 2 rfl ?_
    refine bo_iconst (v := 1) hx dX10_treat_15 (by decide) ?_
    refine bo_icmp_lt hx 25 dX10_treat_16 (by decide) ?_ ?_
    · refine bo_ldc (v := (-1000000002)) hx dX10_treat_25 wc_X10_78 ?_
      exact bo_retw dX10_treat_27 (fun h => by cases h)
    · refine bo_iload_n hx dX10_treat_19 rfl 2 rfl ?_
      refine bo_bipush (v := 20) hx dX10_treat_20 (by decide) ?_
      refine bo_icmp_le hx 28 dX10_treat_22 (by decide) ?_ ?_
      · refine bo_aload_n hx dX10_treat_28 rfl 0 rfl ?_
        refine gf_X10_26 hx dX10_treat_29 ?_
        refine bo_aload_n hx dX10_treat_32 rfl 0 rfl ?_
        refine gf_X10_19 hx dX10_treat_33 ?_
        refine bo_goV hx (fun rr hh => bo_runV (As := [.ref (bo_a x 50)]) (S := []) hx dX10_treat_36 lk_X10_201 mi_X6_note bo_o_3 rfl rfl (kX6_note (bo_l x) (bo_g x) hx.inj σ 50 bo_ev50 rr hh) ⟨by decide, by decide⟩ rfl rfl (Nat.le_of_ble_eq_true rfl)) (fun σ2 => ?_)
        refine bo_iconst (v := 0) hx dX10_treat_39 (by decide) ?_
        refine bo_aload_n hx dX10_treat_40 rfl 0 rfl ?_
        refine gf_X10_19 hx dX10_treat_41 ?_
        refine gf_X10_170 hx bo_ev50 dX10_treat_44 ?_
        refine bo_iload_n hx dX10_treat_47 rfl 1 rfl ?_
        refine bo_goR (z := false) hx (fun rr hh => bo_runS (As := [.ref (bo_a x 51), .int p1]) (S := [.int 0]) hx dX10_treat_48 lk_X10_154 ms_X8_at (kX8_at (bo_l x) (bo_g x) hx.inj σ2 7 51 p1 bo_ev50.a1 rr hh) ⟨by decide, by decide⟩ rfl rfl (Nat.le_of_ble_eq_true rfl)) (fun v3 hv3 => ?_)
        refine bo_iload_n hx dX10_treat_51 rfl 2 rfl ?_
        refine bo_isub hx dX10_treat_52 ?_
        refine bo_max hx dX10_treat_53 lk_X10_209 mm_max_1 mm_i mm_max_2 (by decide) (Nat.le_of_ble_eq_true rfl) ?_
        refine bo_istore_n (L' := [(3, .int (if 0 < (v3 - p2) then (v3 - p2) else 0)), (0, .ref (bo_a x 0)), (1, .int p1), (2, .int p2)]) hx dX10_treat_56 rfl (by decide) rfl ?_
        refine bo_aload_n hx dX10_treat_57 rfl 1 rfl ?_
        refine gf_X10_19 hx dX10_treat_58 ?_
        refine gf_X10_170 hx bo_ev50 dX10_treat_61 ?_
        refine bo_iload_n hx dX10_treat_64 rfl 2 rfl ?_
        refine bo_iload_n hx dX10_treat_65 rfl 0 rfl ?_
        refine bo_goV hx (fun rr hh => bo_runS (As := [.ref (bo_a x 51), .int p1, .int (if 0 < (v3 - p2) then (v3 - p2) else 0)]) (S := []) hx dX10_treat_66 lk_X10_214 ms_X8_put (kX8_put (bo_l x) (bo_g x) hx.inj σ2 7 51 p1 (if 0 < (v3 - p2) then (v3 - p2) else 0) bo_ev50.a1 rr hh) ⟨by decide, by decide⟩ rfl rfl (Nat.le_of_ble_eq_true rfl)) (fun σ4 => ?_)
        refine bo_iload_n hx dX10_treat_69 rfl 0 rfl ?_
        exact bo_retw dX10_treat_70 (fun h => by cases h)
      · refine bo_ldc (v := (-1000000002)) hx dX10_treat_25 wc_X10_78 ?_
        exact bo_retw dX10_treat_27 (fun h => by cases h)
  · refine bo_ldc (v := (-1000000001)) hx dX10_treat_11 wc_X10_149 ?_
    exact bo_retw dX10_treat_13 (fun h => by cases h)
theorem kX10_treat (l : Launch) (g : bo_G) (hi : bo_inj g) (σ : bo_M) (p1 : Int32) (p2 : Int32) : bo_CW l g yX10_treat cX10_treat 4 (some .int) 3 65 [.ref (g.2.2 0), .int p1, .int p2] σ false (mX10_treat σ p1 p2) :=
  bo_metW rfl (Or.inl ⟨rfl, rfl⟩) (by decide) rfl hi (Nat.le_of_ble_eq_true rfl) (fun x e1 e2 hx => by subst e1; subst e2; exact bX10_treat x hx σ p1 p2)
-- BellRope.turn
theorem dX10_turn_0 : decode cX10_turn 0 = .ok (.aload_n 0, 1) := by decide +kernel
theorem dX10_turn_1 : decode cX10_turn 1 = .ok (.getfield 71, 3) := by decide +kernel
theorem dX10_turn_4 : decode cX10_turn 4 = .ok (.iload_n 1, 1) := by decide +kernel
theorem dX10_turn_5 : decode cX10_turn 5 = .ok (.invokevirtual 146, 3) := by decide +kernel
theorem dX10_turn_14 : decode cX10_turn 14 = .ok (.iload_n 2, 1) := by decide +kernel
theorem dX10_turn_24 : decode cX10_turn 24 = .ok (.ldc 78, 2) := by decide +kernel
theorem dX10_turn_26 : decode cX10_turn 26 = .ok (.ireturn, 1) := by decide +kernel
theorem dX10_turn_18 : decode cX10_turn 18 = .ok (.iload_n 2, 1) := by decide +kernel
theorem dX10_turn_19 : decode cX10_turn 19 = .ok (.bipush 39, 2) := by decide +kernel
theorem dX10_turn_27 : decode cX10_turn 27 = .ok (.aload_n 0, 1) := by decide +kernel
theorem dX10_turn_28 : decode cX10_turn 28 = .ok (.getfield 26, 3) := by decide +kernel
theorem dX10_turn_31 : decode cX10_turn 31 = .ok (.aload_n 0, 1) := by decide +kernel
theorem dX10_turn_32 : decode cX10_turn 32 = .ok (.getfield 19, 3) := by decide +kernel
theorem dX10_turn_35 : decode cX10_turn 35 = .ok (.invokevirtual 201, 3) := by decide +kernel
theorem dX10_turn_38 : decode cX10_turn 38 = .ok (.aload_n 0, 1) := by decide +kernel
theorem dX10_turn_39 : decode cX10_turn 39 = .ok (.getfield 19, 3) := by decide +kernel
theorem dX10_turn_42 : decode cX10_turn 42 = .ok (.getfield 173, 3) := by decide +kernel
theorem dX10_turn_45 : decode cX10_turn 45 = .ok (.iload_n 1, 1) := by decide +kernel
theorem dX10_turn_46 : decode cX10_turn 46 = .ok (.invokestatic 154, 3) := by decide +kernel
theorem dX10_turn_49 : decode cX10_turn 49 = .ok (.istore_n 3, 1) := by decide +kernel
theorem dX10_turn_50 : decode cX10_turn 50 = .ok (.aload_n 0, 1) := by decide +kernel
theorem dX10_turn_51 : decode cX10_turn 51 = .ok (.getfield 19, 3) := by decide +kernel
theorem dX10_turn_54 : decode cX10_turn 54 = .ok (.getfield 173, 3) := by decide +kernel
theorem dX10_turn_57 : decode cX10_turn 57 = .ok (.iload_n 1, 1) := by decide +kernel
theorem dX10_turn_58 : decode cX10_turn 58 = .ok (.iload_n 2, 1) := by decide +kernel
theorem dX10_turn_59 : decode cX10_turn 59 = .ok (.invokestatic 214, 3) := by decide +kernel
theorem dX10_turn_62 : decode cX10_turn 62 = .ok (.iload_n 3, 1) := by decide +kernel
theorem dX10_turn_63 : decode cX10_turn 63 = .ok (.ireturn, 1) := by decide +kernel
theorem dX10_turn_21 : decode cX10_turn 21 = .ok (.if_icmp .le 6, 3) := by decide +kernel
theorem dX10_turn_15 : decode cX10_turn 15 = .ok (.ifCond .lt 9, 3) := by decide +kernel
theorem dX10_turn_11 : decode cX10_turn 11 = .ok (.ldc 149, 2) := by decide +kernel
theorem dX10_turn_13 : decode cX10_turn 13 = .ok (.ireturn, 1) := by decide +kernel
theorem dX10_turn_8 : decode cX10_turn 8 = .ok (.ifCond .ne 6, 3) := by decide +kernel
theorem bX10_turn (x : bo_X) (hx : bo_OK x cX10_turn RX10 4 3 65) (σ : bo_M) (p1 : Int32) (p2 : Int32) : bo_D x 0 [(0, .ref (bo_a x 0)), (1, .int p1), (2, .int p2)] [] σ (mX10_turn σ p1 p2) (bo_Rw x cX10_turn false) := by
  unfold mX10_turn
  refine bo_aload_n hx dX10_turn_0 rfl 0 rfl ?_
  refine gf_X10_71 hx dX10_turn_1 ?_
  refine bo_iload_n hx dX10_turn_4 rfl 1 rfl ?_
  refine bo_goR (z := true) hx (fun rr hh => bo_runV (As := [.int p1]) (S := []) hx dX10_turn_5 lk_X10_146 mi_X4_hasDrinker (bo_inn_ok (σ 0 9)).o rfl rfl (kX4_hasDrinker (bo_l x) (bo_g x) hx.inj σ (bo_inn (σ 0 9)) p1 (bo_inn_ok (σ 0 9)) rr hh) ⟨by decide, by decide⟩ rfl rfl (Nat.le_of_ble_eq_true rfl)) (fun v1 hv1 => ?_)
  refine bo_if_ne hx 14 dX10_turn_8 (by decide) ?_ ?_
  · refine bo_iload_n hx dX10_turn_14 rfl 2 rfl ?_
    refine bo_if_lt hx 24 dX10_turn_15 (by decide) ?_ ?_
    · refine bo_ldc (v := (-1000000002)) hx dX10_turn_24 wc_X10_78 ?_
      exact bo_retw dX10_turn_26 (fun h => by cases h)
    · refine bo_iload_n hx dX10_turn_18 rfl 2 rfl ?_
      refine bo_bipush (v := 39) hx dX10_turn_19 (by decide) ?_
      refine bo_icmp_le hx 27 dX10_turn_21 (by decide) ?_ ?_
      · refine bo_aload_n hx dX10_turn_27 rfl 0 rfl ?_
        refine gf_X10_26 hx dX10_turn_28 ?_
        refine bo_aload_n hx dX10_turn_31 rfl 0 rfl ?_
        refine gf_X10_19 hx dX10_turn_32 ?_
        refine bo_goV hx (fun rr hh => bo_runV (As := [.ref (bo_a x 50)]) (S := []) hx dX10_turn_35 lk_X10_201 mi_X6_note bo_o_3 rfl rfl (kX6_note (bo_l x) (bo_g x) hx.inj σ 50 bo_ev50 rr hh) ⟨by decide, by decide⟩ rfl rfl (Nat.le_of_ble_eq_true rfl)) (fun σ2 => ?_)
        refine bo_aload_n hx dX10_turn_38 rfl 0 rfl ?_
        refine gf_X10_19 hx dX10_turn_39 ?_
        refine gf_X10_173 hx bo_ev50 dX10_turn_42 ?_
        refine bo_iload_n hx dX10_turn_45 rfl 1 rfl ?_
        refine bo_goR (z := false) hx (fun rr hh => bo_runS (As := [.ref (bo_a x 52), .int p1]) (S := []) hx dX10_turn_46 lk_X10_154 ms_X8_at (kX8_at (bo_l x) (bo_g x) hx.inj σ2 7 52 p1 bo_ev50.a2 rr hh) ⟨by decide, by decide⟩ rfl rfl (Nat.le_of_ble_eq_true rfl)) (fun v3 hv3 => ?_)
        refine bo_istore_n (L' := [(3, .int v3), (0, .ref (bo_a x 0)), (1, .int p1), (2, .int p2)]) hx dX10_turn_49 rfl (by decide) rfl ?_
        refine bo_aload_n hx dX10_turn_50 rfl 1 rfl ?_
        refine gf_X10_19 hx dX10_turn_51 ?_
        refine gf_X10_173 hx bo_ev50 dX10_turn_54 ?_
        refine bo_iload_n hx dX10_turn_57 rfl 2 rfl ?_
        refine bo_iload_n hx dX10_turn_58 rfl 3 rfl ?_
        refine bo_goV hx (fun rr hh => bo_runS (As := [.ref (bo_a x 52), .int p1, .int p2]) (S := []) hx dX10_turn_59 lk_X10_214 ms_X8_put (kX8_put (bo_l x) (bo_g x) hx.inj σ2 7 52 p1 p2 bo_ev50.a2 rr hh) ⟨by decide, by decide⟩ rfl rfl (Nat.le_of_ble_eq_true rfl)) (fun σ4 => ?_)
        refine bo_iload_n hx dX10_turn_62 rfl 0 rfl ?_
        exact bo_retw dX10_turn_63 (fun h => by cases h)
      · refine bo_ldc (v := (-1000000002)) hx dX10_turn_24 wc_X10_78 ?_
        exact bo_retw dX10_turn_26 (fun h => by cases h)
  · refine bo_ldc (v := (-1000000001)) hx dX10_turn_11 wc_X10_149 ?_
    exact bo_retw dX10_turn_13 (fun h => by cases h)
theorem kX10_turn (l : Launch) (g : bo_G) (hi : bo_inj g) (σ : bo_M) (p1 : Int32) (p2 : Int32) : bo_CW l g yX10_turn cX10_turn 4 (some .int) 3 65 [.ref (g.2.2 0), .int p1, .int p2] σ false (mX10_turn σ p1 p2) :=
  bo_metW rfl (Or.inl ⟨rfl, rfl⟩) (by decide) rfl hi (Nat.le_of_ble_eq_true rfl) (fun x e1 e2 hx => by subst e1; subst e2; exact bX10_turn x hx σ p1 p2)
-- BellRope.hang
theorem dX10_hang_0 : decode cX10_hang 0 = .ok (.aload_n 0, 1) := by decide +kernel
theorem dX10_hang_1 : decode cX10_hang 1 = .ok (.iload_n 1, 1) := by decide +kernel
theorem dX10_hang_11 : decode cX10_hang 11 = .ok (.iconst 1, 1) := by decide +kernel
theorem dX10_hang_12 : decode cX10_hang 12 = .ok (.goto 4, 3) := by decide +kernel
theorem dX10_hang_5 : decode cX10_hang 5 = .ok (.iload_n 1, 1) := by decide +kernel
theorem dX10_hang_6 : decode cX10_hang 6 = .ok (.bipush 96, 2) := by decide +kernel
theorem dX10_hang_15 : decode cX10_hang 15 = .ok (.iconst 0, 1) := by decide +kernel
theorem dX10_hang_8 : decode cX10_hang 8 = .ok (.if_icmp .le 7, 3) := by decide +kernel
theorem dX10_hang_2 : decode cX10_hang 2 = .ok (.ifCond .lt 9, 3) := by decide +kernel
theorem dX10_hang_16 : decode cX10_hang 16 = .ok (.invokevirtual 218, 3) := by decide +kernel
theorem dX10_hang_19 : decode cX10_hang 19 = .ok (.istore_n 2, 1) := by decide +kernel
theorem dX10_hang_20 : decode cX10_hang 20 = .ok (.iload_n 2, 1) := by decide +kernel
theorem dX10_hang_26 : decode cX10_hang 26 = .ok (.aload_n 0, 1) := by decide +kernel
theorem dX10_hang_27 : decode cX10_hang 27 = .ok (.getfield 26, 3) := by decide +kernel
theorem dX10_hang_30 : decode cX10_hang 30 = .ok (.aload_n 0, 1) := by decide +kernel
theorem dX10_hang_31 : decode cX10_hang 31 = .ok (.getfield 19, 3) := by decide +kernel
theorem dX10_hang_34 : decode cX10_hang 34 = .ok (.invokevirtual 201, 3) := by decide +kernel
theorem dX10_hang_37 : decode cX10_hang 37 = .ok (.aload_n 0, 1) := by decide +kernel
theorem dX10_hang_38 : decode cX10_hang 38 = .ok (.getfield 19, 3) := by decide +kernel
theorem dX10_hang_41 : decode cX10_hang 41 = .ok (.getfield 133, 3) := by decide +kernel
theorem dX10_hang_44 : decode cX10_hang 44 = .ok (.istore_n 3, 1) := by decide +kernel
theorem dX10_hang_45 : decode cX10_hang 45 = .ok (.aload_n 0, 1) := by decide +kernel
theorem dX10_hang_46 : decode cX10_hang 46 = .ok (.getfield 19, 3) := by decide +kernel
theorem dX10_hang_49 : decode cX10_hang 49 = .ok (.iload_n 1, 1) := by decide +kernel
theorem dX10_hang_50 : decode cX10_hang 50 = .ok (.putfield 133, 3) := by decide +kernel
theorem dX10_hang_53 : decode cX10_hang 53 = .ok (.iload_n 3, 1) := by decide +kernel
theorem dX10_hang_54 : decode cX10_hang 54 = .ok (.ireturn, 1) := by decide +kernel
theorem dX10_hang_24 : decode cX10_hang 24 = .ok (.iload_n 2, 1) := by decide +kernel
theorem dX10_hang_25 : decode cX10_hang 25 = .ok (.ireturn, 1) := by decide +kernel
theorem dX10_hang_21 : decode cX10_hang 21 = .ok (.ifCond .eq 5, 3) := by decide +kernel
theorem bX10_hang (x : bo_X) (hx : bo_OK x cX10_hang RX10 4 3 65) (σ : bo_M) (p1 : Int32) : bo_D x 0 [(0, .ref (bo_a x 0)), (1, .int p1)] [] σ (mX10_hang σ p1) (bo_Rw x cX10_hang false) := by
  unfold mX10_hang
  refine bo_aload_n hx dX10_hang_0 rfl 0 rfl ?_
  refine bo_iload_n hx dX10_hang_1 rfl 1 rfl ?_
  refine bo_seq 16 (fun a => [(0, .ref (bo_a x 0)), (1, .int p1)]) (fun a => [.int a, .ref (bo_a x 0)]) (fun a => σ) ?_ (fun a1 => ?_)
  · refine bo_if_lt hx 11 dX10_hang_2 (by decide) ?_ ?_
    · refine bo_iconst (v := 1) hx dX10_hang_11 (by decide) ?_
      refine bo_goto hx 16 dX10_hang_12 (by decide) ?_
      exact bo_arr (fun h => h)
    · refine bo_iload_n hx dX10_hang_5 rfl 1 rfl ?_
      refine bo_bipush (v := 96) hx dX10_hang_6 (by decide) ?_
      refine bo_icmp_le hx 15 dX10_hang_8 (by decide) ?_ ?_
      · refine bo_iconst (v := 0) hx dX10_hang_15 (by decide) ?_
        exact bo_arr (fun h => h)
      · refine bo_iconst (v := 1) hx dX10_hang_11 (by decide) ?_
        refine bo_goto hx 16 dX10_hang_12 (by decide) ?_
        exact bo_arr (fun h => h)
  · refine bo_goR (z := false) hx (fun rr hh => bo_runV (As := [.int a1]) (S := []) hx dX10_hang_16 lk_X10_218 mi_X10_refused bo_o_0 rfl rfl (kX10_refused (bo_l x) (bo_g x) hx.inj σ a1 rr hh) ⟨by decide, by decide⟩ rfl rfl (Nat.le_of_ble_eq_true rfl)) (fun v2 hv2 => ?_)
    refine bo_istore_n (L' := [(2, .int v2), (0, .ref (bo_a x 0)), (1, .int p1)]) hx dX10_hang_19 rfl (by decide) rfl ?_
    refine bo_iload_n hx dX10_hang_20 rfl 0 rfl ?_
    refine bo_if_eq hx 26 dX10_hang_21 (by decide) ?_ ?_
    · refine bo_aload_n hx dX10_hang_26 rfl 1 rfl ?_
      refine gf_X10_26 hx dX10_hang_27 ?_
      refine bo_aload_n hx dX10_hang_30 rfl 1 rfl ?_
      refine gf_X10_19 hx dX10_hang_31 ?_
      refine bo_goV hx (fun rr hh => bo_runV (As := [.ref (bo_a x 50)]) (S := []) hx dX10_hang_34 lk_X10_201 mi_X6_note bo_o_3 rfl rfl (kX6_note (bo_l x) (bo_g x) hx.inj σ 50 bo_ev50 rr hh) ⟨by decide, by decide⟩ rfl rfl (Nat.le_of_ble_eq_true rfl)) (fun σ3 => ?_)
      refine bo_aload_n hx dX10_hang_37 rfl 1 rfl ?_
      refine gf_X10_19 hx dX10_hang_38 ?_
      refine gf_X10_133 hx bo_ev50 dX10_hang_41 ?_
      refine bo_istore_n (L' := [(3, .int (σ3 50 7)), (2, .int v2), (0, .ref (bo_a x 0)), (1, .int p1)]) hx dX10_hang_44 rfl (by decide) rfl ?_
      refine bo_aload_n hx dX10_hang_45 rfl 2 rfl ?_
      refine gf_X10_19 hx dX10_hang_46 ?_
      refine bo_iload_n hx dX10_hang_49 rfl 3 rfl ?_
      refine pf_X10_133 hx bo_ev50 dX10_hang_50 (fun σ4 => ?_)
      refine bo_iload_n hx dX10_hang_53 rfl 0 rfl ?_
      exact bo_retw dX10_hang_54 (fun h => by cases h)
    · refine bo_iload_n hx dX10_hang_24 rfl 0 rfl ?_
      exact bo_retw dX10_hang_25 (fun h => by cases h)
theorem kX10_hang (l : Launch) (g : bo_G) (hi : bo_inj g) (σ : bo_M) (p1 : Int32) : bo_CW l g yX10_hang cX10_hang 4 (some .int) 3 65 [.ref (g.2.2 0), .int p1] σ false (mX10_hang σ p1) :=
  bo_metW rfl (Or.inl ⟨rfl, rfl⟩) (by decide) rfl hi (Nat.le_of_ble_eq_true rfl) (fun x e1 e2 hx => by subst e1; subst e2; exact bX10_hang x hx σ p1)
-- BellRope.rain
theorem dX10_rain_0 : decode cX10_rain 0 = .ok (.aload_n 0, 1) := by decide +kernel
theorem dX10_rain_1 : decode cX10_rain 1 = .ok (.iload_n 1, 1) := by decide +kernel
theorem dX10_rain_10 : decode cX10_rain 10 = .ok (.iconst 1, 1) := by decide +kernel
theorem dX10_rain_11 : decode cX10_rain 11 = .ok (.goto 4, 3) := by decide +kernel
theorem dX10_rain_5 : decode cX10_rain 5 = .ok (.iload_n 1, 1) := by decide +kernel
theorem dX10_rain_6 : decode cX10_rain 6 = .ok (.iconst 2, 1) := by decide +kernel
theorem dX10_rain_14 : decode cX10_rain 14 = .ok (.iconst 0, 1) := by decide +kernel
theorem dX10_rain_7 : decode cX10_rain 7 = .ok (.if_icmp .le 7, 3) := by decide +kernel
theorem dX10_rain_2 : decode cX10_rain 2 = .ok (.ifCond .lt 8, 3) := by decide +kernel
theorem dX10_rain_15 : decode cX10_rain 15 = .ok (.invokevirtual 218, 3) := by decide +kernel
theorem dX10_rain_18 : decode cX10_rain 18 = .ok (.istore_n 2, 1) := by decide +kernel
theorem dX10_rain_19 : decode cX10_rain 19 = .ok (.iload_n 2, 1) := by decide +kernel
theorem dX10_rain_25 : decode cX10_rain 25 = .ok (.aload_n 0, 1) := by decide +kernel
theorem dX10_rain_26 : decode cX10_rain 26 = .ok (.getfield 26, 3) := by decide +kernel
theorem dX10_rain_29 : decode cX10_rain 29 = .ok (.aload_n 0, 1) := by decide +kernel
theorem dX10_rain_30 : decode cX10_rain 30 = .ok (.getfield 19, 3) := by decide +kernel
theorem dX10_rain_33 : decode cX10_rain 33 = .ok (.invokevirtual 201, 3) := by decide +kernel
theorem dX10_rain_36 : decode cX10_rain 36 = .ok (.aload_n 0, 1) := by decide +kernel
theorem dX10_rain_37 : decode cX10_rain 37 = .ok (.getfield 19, 3) := by decide +kernel
theorem dX10_rain_40 : decode cX10_rain 40 = .ok (.getfield 143, 3) := by decide +kernel
theorem dX10_rain_43 : decode cX10_rain 43 = .ok (.istore_n 3, 1) := by decide +kernel
theorem dX10_rain_44 : decode cX10_rain 44 = .ok (.aload_n 0, 1) := by decide +kernel
theorem dX10_rain_45 : decode cX10_rain 45 = .ok (.getfield 19, 3) := by decide +kernel
theorem dX10_rain_48 : decode cX10_rain 48 = .ok (.iload_n 1, 1) := by decide +kernel
theorem dX10_rain_49 : decode cX10_rain 49 = .ok (.putfield 143, 3) := by decide +kernel
theorem dX10_rain_52 : decode cX10_rain 52 = .ok (.iload_n 3, 1) := by decide +kernel
theorem dX10_rain_53 : decode cX10_rain 53 = .ok (.ireturn, 1) := by decide +kernel
theorem dX10_rain_23 : decode cX10_rain 23 = .ok (.iload_n 2, 1) := by decide +kernel
theorem dX10_rain_24 : decode cX10_rain 24 = .ok (.ireturn, 1) := by decide +kernel
theorem dX10_rain_20 : decode cX10_rain 20 = .ok (.ifCond .eq 5, 3) := by decide +kernel
theorem bX10_rain (x : bo_X) (hx : bo_OK x cX10_rain RX10 4 3 65) (σ : bo_M) (p1 : Int32) : bo_D x 0 [(0, .ref (bo_a x 0)), (1, .int p1)] [] σ (mX10_rain σ p1) (bo_Rw x cX10_rain false) := by
  unfold mX10_rain
  refine bo_aload_n hx dX10_rain_0 rfl 0 rfl ?_
  refine bo_iload_n hx dX10_rain_1 rfl 1 rfl ?_
  refine bo_seq 15 (fun a => [(0, .ref (bo_a x 0)), (1, .int p1)]) (fun a => [.int a, .ref (bo_a x 0)]) (fun a => σ) ?_ (fun a1 => ?_)
  · refine bo_if_lt hx 10 dX10_rain_2 (by decide) ?_ ?_
    · refine bo_iconst (v := 1) hx dX10_rain_10 (by decide) ?_
      refine bo_goto hx 15 dX10_rain_11 (by decide) ?_
      exact bo_arr (fun h => h)
    · refine bo_iload_n hx dX10_rain_5 rfl 1 rfl ?_
      refine bo_iconst (v := 2) hx dX10_rain_6 (by decide) ?_
      refine bo_icmp_le hx 14 dX10_rain_7 (by decide) ?_ ?_
      · refine bo_iconst (v := 0) hx dX10_rain_14 (by decide) ?_
        exact bo_arr (fun h => h)
      · refine bo_iconst (v := 1) hx dX10_rain_10 (by decide) ?_
        refine bo_goto hx 15 dX10_rain_11 (by decide) ?_
        exact bo_arr (fun h => h)
  · refine bo_goR (z := false) hx (fun rr hh => bo_runV (As := [.int a1]) (S := []) hx dX10_rain_15 lk_X10_218 mi_X10_refused bo_o_0 rfl rfl (kX10_refused (bo_l x) (bo_g x) hx.inj σ a1 rr hh) ⟨by decide, by decide⟩ rfl rfl (Nat.le_of_ble_eq_true rfl)) (fun v2 hv2 => ?_)
    refine bo_istore_n (L' := [(2, .int v2), (0, .ref (bo_a x 0)), (1, .int p1)]) hx dX10_rain_18 rfl (by decide) rfl ?_
    refine bo_iload_n hx dX10_rain_19 rfl 0 rfl ?_
    refine bo_if_eq hx 25 dX10_rain_20 (by decide) ?_ ?_
    · refine bo_aload_n hx dX10_rain_25 rfl 1 rfl ?_
      refine gf_X10_26 hx dX10_rain_26 ?_
      refine bo_aload_n hx dX10_rain_29 rfl 1 rfl ?_
      refine gf_X10_19 hx dX10_rain_30 ?_
      refine bo_goV hx (fun rr hh => bo_runV (As := [.ref (bo_a x 50)]) (S := []) hx dX10_rain_33 lk_X10_201 mi_X6_note bo_o_3 rfl rfl (kX6_note (bo_l x) (bo_g x) hx.inj σ 50 bo_ev50 rr hh) ⟨by decide, by decide⟩ rfl rfl (Nat.le_of_ble_eq_true rfl)) (fun σ3 => ?_)
      refine bo_aload_n hx dX10_rain_36 rfl 1 rfl ?_
      refine gf_X10_19 hx dX10_rain_37 ?_
      refine gf_X10_143 hx bo_ev50 dX10_rain_40 ?_
      refine bo_istore_n (L' := [(3, .int (σ3 50 9)), (2, .int v2), (0, .ref (bo_a x 0)), (1, .int p1)]) hx dX10_rain_43 rfl (by decide) rfl ?_
      refine bo_aload_n hx dX10_rain_44 rfl 2 rfl ?_
      refine gf_X10_19 hx dX10_rain_45 ?_
      refine bo_iload_n hx dX10_rain_48 rfl 3 rfl ?_
      refine pf_X10_143 hx bo_ev50 dX10_rain_49 (fun σ4 => ?_)
      refine bo_iload_n hx dX10_rain_52 rfl 0 rfl ?_
      exact bo_retw dX10_rain_53 (fun h => by cases h)
    · refine bo_iload_n hx dX10_rain_23 rfl 0 rfl ?_
      exact bo_retw dX10_rain_24 (fun h => by cases h)
theorem kX10_rain (l : Launch) (g : bo_G) (hi : bo_inj g) (σ : bo_M) (p1 : Int32) : bo_CW l g yX10_rain cX10_rain 4 (some .int) 3 65 [.ref (g.2.2 0), .int p1] σ false (mX10_rain σ p1) :=
  bo_metW rfl (Or.inl ⟨rfl, rfl⟩) (by decide) rfl hi (Nat.le_of_ble_eq_true rfl) (fun x e1 e2 hx => by subst e1; subst e2; exact bX10_rain x hx σ p1)
-- BellRope.draw
theorem dX10_draw_0 : decode cX10_draw 0 = .ok (.aload_n 0, 1) := by decide +kernel
theorem dX10_draw_1 : decode cX10_draw 1 = .ok (.aload_n 0, 1) := by decide +kernel
theorem dX10_draw_2 : decode cX10_draw 2 = .ok (.getfield 321, 3) := by decide +kernel
theorem dX10_draw_5 : decode cX10_draw 5 = .ok (.ldc_w 339, 3) := by decide +kernel
theorem dX10_draw_8 : decode cX10_draw 8 = .ok (.imul, 1) := by decide +kernel
theorem dX10_draw_9 : decode cX10_draw 9 = .ok (.sipush 12345, 3) := by decide +kernel
theorem dX10_draw_12 : decode cX10_draw 12 = .ok (.iadd, 1) := by decide +kernel
theorem dX10_draw_13 : decode cX10_draw 13 = .ok (.ldc_w 340, 3) := by decide +kernel
theorem dX10_draw_16 : decode cX10_draw 16 = .ok (.iand, 1) := by decide +kernel
theorem dX10_draw_17 : decode cX10_draw 17 = .ok (.putfield 321, 3) := by decide +kernel
theorem dX10_draw_20 : decode cX10_draw 20 = .ok (.iload_n 1, 1) := by decide +kernel
theorem dX10_draw_37 : decode cX10_draw 37 = .ok (.iconst 0, 1) := by decide +kernel
theorem dX10_draw_38 : decode cX10_draw 38 = .ok (.ireturn, 1) := by decide +kernel
theorem dX10_draw_24 : decode cX10_draw 24 = .ok (.aload_n 0, 1) := by decide +kernel
theorem dX10_draw_25 : decode cX10_draw 25 = .ok (.getfield 321, 3) := by decide +kernel
theorem dX10_draw_28 : decode cX10_draw 28 = .ok (.ldc_w 341, 3) := by decide +kernel
theorem dX10_draw_31 : decode cX10_draw 31 = .ok (.idiv, 1) := by decide +kernel
theorem dX10_draw_32 : decode cX10_draw 32 = .ok (.iload_n 1, 1) := by decide +kernel
theorem dX10_draw_33 : decode cX10_draw 33 = .ok (.irem, 1) := by decide +kernel
theorem dX10_draw_34 : decode cX10_draw 34 = .ok (.goto 4, 3) := by decide +kernel
theorem dX10_draw_21 : decode cX10_draw 21 = .ok (.ifCond .le 16, 3) := by decide +kernel
theorem bX10_draw (x : bo_X) (hx : bo_OK x cX10_draw RX10 2 0 0) (σ : bo_M) (p1 : Int32) : bo_D x 0 [(0, .ref (bo_a x 0)), (1, .int p1)] [] σ (mX10_draw σ p1) (bo_Rw x cX10_draw false) := by
  unfold mX10_draw
  refine bo_aload_n hx dX10_draw_0 rfl 0 rfl ?_
  refine bo_aload_n hx dX10_draw_1 rfl 0 rfl ?_
  refine gf_X10_321 hx dX10_draw_2 ?_
  refine bo_ldcw (v := 1103515245) hx dX10_draw_5 wc_X10_339 ?_
  refine bo_imul hx dX10_draw_8 ?_
  refine bo_sipush (v := 12345) hx dX10_draw_9 (by decide) ?_
  refine bo_iadd hx dX10_draw_12 ?_
  refine bo_ldcw (v := 2147483647) hx dX10_draw_13 wc_X10_340 ?_
  refine bo_iand hx dX10_draw_16 ?_
  refine pf_X10_321 hx dX10_draw_17 (fun σ1 => ?_)
  refine bo_iload_n hx dX10_draw_20 rfl 1 rfl ?_
  refine bo_if_le hx 37 dX10_draw_21 (by decide) ?_ ?_
  · refine bo_iconst (v := 0) hx dX10_draw_37 (by decide) ?_
    exact bo_retw dX10_draw_38 (fun h => by cases h)
  · refine bo_aload_n hx dX10_draw_24 rfl 0 rfl ?_
    refine gf_X10_321 hx dX10_draw_25 ?_
    refine bo_ldcw (v := 65536) hx dX10_draw_28 wc_X10_341 ?_
    refine bo_idivc hx dX10_draw_31 (by decide) ?_
    refine bo_iload_n hx dX10_draw_32 rfl 1 rfl ?_
    refine bo_irem hx dX10_draw_33 (fun v2 => ?_)
    refine bo_goto hx 38 dX10_draw_34 (by decide) ?_
    exact bo_retw dX10_draw_38 (fun h => by cases h)
theorem kX10_draw (l : Launch) (g : bo_G) (hi : bo_inj g) (σ : bo_M) (p1 : Int32) : bo_CW l g yX10_draw cX10_draw 2 (some .int) 0 0 [.ref (g.2.2 0), .int p1] σ false (mX10_draw σ p1) :=
  bo_metW rfl (Or.inl ⟨rfl, rfl⟩) (by decide) rfl hi (Nat.le_of_ble_eq_true rfl) (fun x e1 e2 hx => by subst e1; subst e2; exact bX10_draw x hx σ p1)
-- BellRope.stir
theorem dX10_stir_0 : decode cX10_stir 0 = .ok (.aload_n 0, 1) := by decide +kernel
theorem dX10_stir_1 : decode cX10_stir 1 = .ok (.getfield 71, 3) := by decide +kernel
theorem dX10_stir_4 : decode cX10_stir 4 = .ok (.getfield 102, 3) := by decide +kernel
theorem dX10_stir_11 : decode cX10_stir 11 = .ok (.aload_n 0, 1) := by decide +kernel
theorem dX10_stir_12 : decode cX10_stir 12 = .ok (.aload_n 0, 1) := by decide +kernel
theorem dX10_stir_13 : decode cX10_stir 13 = .ok (.getfield 71, 3) := by decide +kernel
theorem dX10_stir_16 : decode cX10_stir 16 = .ok (.getfield 102, 3) := by decide +kernel
theorem dX10_stir_19 : decode cX10_stir 19 = .ok (.invokevirtual 336, 3) := by decide +kernel
theorem dX10_stir_22 : decode cX10_stir 22 = .ok (.istore_n 1, 1) := by decide +kernel
theorem dX10_stir_23 : decode cX10_stir 23 = .ok (.aload_n 0, 1) := by decide +kernel
theorem dX10_stir_24 : decode cX10_stir 24 = .ok (.bipush 6, 2) := by decide +kernel
theorem dX10_stir_26 : decode cX10_stir 26 = .ok (.invokevirtual 336, 3) := by decide +kernel
theorem dX10_stir_29 : decode cX10_stir 29 = .ok (.istore_n 2, 1) := by decide +kernel
theorem dX10_stir_30 : decode cX10_stir 30 = .ok (.iload_n 2, 1) := by decide +kernel
theorem dX10_stir_52 : decode cX10_stir 52 = .ok (.iload_n 2, 1) := by decide +kernel
theorem dX10_stir_53 : decode cX10_stir 53 = .ok (.iconst 1, 1) := by decide +kernel
theorem dX10_stir_77 : decode cX10_stir 77 = .ok (.iload_n 2, 1) := by decide +kernel
theorem dX10_stir_78 : decode cX10_stir 78 = .ok (.iconst 2, 1) := by decide +kernel
theorem dX10_stir_94 : decode cX10_stir 94 = .ok (.return_, 1) := by decide +kernel
theorem dX10_stir_82 : decode cX10_stir 82 = .ok (.aload_n 0, 1) := by decide +kernel
theorem dX10_stir_83 : decode cX10_stir 83 = .ok (.getfield 19, 3) := by decide +kernel
theorem dX10_stir_86 : decode cX10_stir 86 = .ok (.aload_n 0, 1) := by decide +kernel
theorem dX10_stir_87 : decode cX10_stir 87 = .ok (.iconst 3, 1) := by decide +kernel
theorem dX10_stir_88 : decode cX10_stir 88 = .ok (.invokevirtual 336, 3) := by decide +kernel
theorem dX10_stir_91 : decode cX10_stir 91 = .ok (.putfield 143, 3) := by decide +kernel
theorem dX10_stir_79 : decode cX10_stir 79 = .ok (.if_icmp .ne 15, 3) := by decide +kernel
theorem dX10_stir_57 : decode cX10_stir 57 = .ok (.aload_n 0, 1) := by decide +kernel
theorem dX10_stir_58 : decode cX10_stir 58 = .ok (.getfield 19, 3) := by decide +kernel
theorem dX10_stir_61 : decode cX10_stir 61 = .ok (.dup, 1) := by decide +kernel
theorem dX10_stir_62 : decode cX10_stir 62 = .ok (.getfield 123, 3) := by decide +kernel
theorem dX10_stir_65 : decode cX10_stir 65 = .ok (.iconst 1, 1) := by decide +kernel
theorem dX10_stir_66 : decode cX10_stir 66 = .ok (.iload_n 1, 1) := by decide +kernel
theorem dX10_stir_67 : decode cX10_stir 67 = .ok (.ishl, 1) := by decide +kernel
theorem dX10_stir_68 : decode cX10_stir 68 = .ok (.iconst (-1), 1) := by decide +kernel
theorem dX10_stir_69 : decode cX10_stir 69 = .ok (.ixor, 1) := by decide +kernel
theorem dX10_stir_70 : decode cX10_stir 70 = .ok (.iand, 1) := by decide +kernel
theorem dX10_stir_71 : decode cX10_stir 71 = .ok (.putfield 123, 3) := by decide +kernel
theorem dX10_stir_74 : decode cX10_stir 74 = .ok (.goto 20, 3) := by decide +kernel
theorem dX10_stir_54 : decode cX10_stir 54 = .ok (.if_icmp .ne 23, 3) := by decide +kernel
theorem dX10_stir_34 : decode cX10_stir 34 = .ok (.aload_n 0, 1) := by decide +kernel
theorem dX10_stir_35 : decode cX10_stir 35 = .ok (.getfield 19, 3) := by decide +kernel
theorem dX10_stir_38 : decode cX10_stir 38 = .ok (.dup, 1) := by decide +kernel
theorem dX10_stir_39 : decode cX10_stir 39 = .ok (.getfield 123, 3) := by decide +kernel
theorem dX10_stir_42 : decode cX10_stir 42 = .ok (.iconst 1, 1) := by decide +kernel
theorem dX10_stir_43 : decode cX10_stir 43 = .ok (.iload_n 1, 1) := by decide +kernel
theorem dX10_stir_44 : decode cX10_stir 44 = .ok (.ishl, 1) := by decide +kernel
theorem dX10_stir_45 : decode cX10_stir 45 = .ok (.ior, 1) := by decide +kernel
theorem dX10_stir_46 : decode cX10_stir 46 = .ok (.putfield 123, 3) := by decide +kernel
theorem dX10_stir_49 : decode cX10_stir 49 = .ok (.goto 45, 3) := by decide +kernel
theorem dX10_stir_31 : decode cX10_stir 31 = .ok (.ifCond .ne 21, 3) := by decide +kernel
theorem dX10_stir_10 : decode cX10_stir 10 = .ok (.return_, 1) := by decide +kernel
theorem dX10_stir_7 : decode cX10_stir 7 = .ok (.ifCond .gt 4, 3) := by decide +kernel
theorem bX10_stir (x : bo_X) (hx : bo_OK x cX10_stir RX10 3 1 21) (σ : bo_M) : bo_D x 0 [(0, .ref (bo_a x 0))] [] σ (mX10_stir σ) (bo_Rv x cX10_stir) := by
  unfold mX10_stir
  refine bo_aload_n hx dX10_stir_0 rfl 0 rfl ?_
  refine gf_X10_71 hx dX10_stir_1 ?_
  refine gf_X10_102 hx (bo_inn_ok (σ 0 9)) dX10_stir_4 ?_
  refine bo_if_gt hx 11 dX10_stir_7 (by decide) ?_ ?_
  · refine bo_aload_n hx dX10_stir_11 rfl 0 rfl ?_
    refine bo_aload_n hx dX10_stir_12 rfl 0 rfl ?_
    refine gf_X10_71 hx dX10_stir_13 ?_
    refine gf_X10_102 hx (bo_inn_ok (σ 0 9)) dX10_stir_16 ?_
    refine bo_goW (z := false) hx (fun rr hh => bo_runV (As := [.int (σ (bo_inn (σ 0 9)) 11)]) (S := []) hx dX10_stir_19 lk_X10_336 mi_X10_draw bo_o_0 rfl rfl (kX10_draw (bo_l x) (bo_g x) hx.inj σ (σ (bo_inn (σ 0 9)) 11) rr hh) ⟨by decide, by decide⟩ rfl rfl (Nat.le_of_ble_eq_true rfl)) (fun a1 ha1 => ?_)
    refine bo_istore_n (L' := [(1, .int a1.1), (0, .ref (bo_a x 0))]) hx dX10_stir_22 rfl (by decide) rfl ?_
    refine bo_aload_n hx dX10_stir_23 rfl 1 rfl ?_
    refine bo_bipush (v := 6) hx dX10_stir_24 (by decide) ?_
    refine bo_goW (z := false) hx (fun rr hh => bo_runV (As := [.int 6]) (S := []) hx dX10_stir_26 lk_X10_336 mi_X10_draw bo_o_0 rfl rfl (kX10_draw (bo_l x) (bo_g x) hx.inj a1.2 6 rr hh) ⟨by decide, by decide⟩ rfl rfl (Nat.le_of_ble_eq_true rfl)) (fun a2 ha2 => ?_)
    refine bo_istore_n (L' := [(2, .int a2.1), (1, .int a1.1), (0, .ref (bo_a x 0))]) hx dX10_stir_29 rfl (by decide) rfl ?_
    refine bo_iload_n hx dX10_stir_30 rfl 0 rfl ?_
    refine bo_if_ne hx 52 dX10_stir_31 (by decide) ?_ ?_
    · refine bo_iload_n hx dX10_stir_52 rfl 0 rfl ?_
      refine bo_iconst (v := 1) hx dX10_stir_53 (by decide) ?_
      refine bo_icmp_ne hx 77 dX10_stir_54 (by decide) ?_ ?_
      · refine bo_iload_n hx dX10_stir_77 rfl 0 rfl ?_
        refine bo_iconst (v := 2) hx dX10_stir_78 (by decide) ?_
        refine bo_icmp_ne hx 94 dX10_stir_79 (by decide) ?_ ?_
        · exact bo_retv dX10_stir_94
        · refine bo_aload_n hx dX10_stir_82 rfl 2 rfl ?_
          refine gf_X10_19 hx dX10_stir_83 ?_
          refine bo_aload_n hx dX10_stir_86 rfl 2 rfl ?_
          refine bo_iconst (v := 3) hx dX10_stir_87 (by decide) ?_
          refine bo_goW (z := false) hx (fun rr hh => bo_runV (As := [.int 3]) (S := [.ref (bo_a x 50)]) hx dX10_stir_88 lk_X10_336 mi_X10_draw bo_o_0 rfl rfl (kX10_draw (bo_l x) (bo_g x) hx.inj a2.2 3 rr hh) ⟨by decide, by decide⟩ rfl rfl (Nat.le_of_ble_eq_true rfl)) (fun a3 ha3 => ?_)
          refine pf_X10_143 hx bo_ev50 dX10_stir_91 (fun σ4 => ?_)
          exact bo_retv dX10_stir_94
      · refine bo_aload_n hx dX10_stir_57 rfl 2 rfl ?_
        refine gf_X10_19 hx dX10_stir_58 ?_
        refine bo_dup hx dX10_stir_61 rfl ?_
        refine gf_X10_123 hx bo_ev50 dX10_stir_62 ?_
        refine bo_iconst (v := 1) hx dX10_stir_65 (by decide) ?_
        refine bo_iload_n hx dX10_stir_66 rfl 1 rfl ?_
        refine bo_ishl hx dX10_stir_67 ?_
        refine bo_iconst (v := (-1)) hx dX10_stir_68 (by decide) ?_
        refine bo_ixor hx dX10_stir_69 ?_
        refine bo_iand hx dX10_stir_70 ?_
        refine pf_X10_123 hx bo_ev50 dX10_stir_71 (fun σ5 => ?_)
        refine bo_goto hx 94 dX10_stir_74 (by decide) ?_
        exact bo_retv dX10_stir_94
    · refine bo_aload_n hx dX10_stir_34 rfl 2 rfl ?_
      refine gf_X10_19 hx dX10_stir_35 ?_
      refine bo_dup hx dX10_stir_38 rfl ?_
      refine gf_X10_123 hx bo_ev50 dX10_stir_39 ?_
      refine bo_iconst (v := 1) hx dX10_stir_42 (by decide) ?_
      refine bo_iload_n hx dX10_stir_43 rfl 1 rfl ?_
      refine bo_ishl hx dX10_stir_44 ?_
      refine bo_ior hx dX10_stir_45 ?_
      refine pf_X10_123 hx bo_ev50 dX10_stir_46 (fun σ6 => ?_)
      refine bo_goto hx 94 dX10_stir_49 (by decide) ?_
      exact bo_retv dX10_stir_94
  · exact bo_retv dX10_stir_10
theorem kX10_stir (l : Launch) (g : bo_G) (hi : bo_inj g) (σ : bo_M) : bo_CV l g yX10_stir cX10_stir 3 none 1 21 [.ref (g.2.2 0)] σ (mX10_stir σ) :=
  bo_metV rfl  (by decide) rfl hi (Nat.le_of_ble_eq_true rfl) (fun x e1 e2 hx => by subst e1; subst e2; exact bX10_stir x hx σ)
-- BellRope.drift
theorem dX10_drift_0 : decode cX10_drift 0 = .ok (.aload_n 0, 1) := by decide +kernel
theorem dX10_drift_1 : decode cX10_drift 1 = .ok (.iload_n 1, 1) := by decide +kernel
theorem dX10_drift_2 : decode cX10_drift 2 = .ok (.invokevirtual 198, 3) := by decide +kernel
theorem dX10_drift_5 : decode cX10_drift 5 = .ok (.istore_n 2, 1) := by decide +kernel
theorem dX10_drift_6 : decode cX10_drift 6 = .ok (.iload_n 2, 1) := by decide +kernel
theorem dX10_drift_12 : decode cX10_drift 12 = .ok (.aload_n 0, 1) := by decide +kernel
theorem dX10_drift_13 : decode cX10_drift 13 = .ok (.getfield 26, 3) := by decide +kernel
theorem dX10_drift_16 : decode cX10_drift 16 = .ok (.aload_n 0, 1) := by decide +kernel
theorem dX10_drift_17 : decode cX10_drift 17 = .ok (.getfield 19, 3) := by decide +kernel
theorem dX10_drift_20 : decode cX10_drift 20 = .ok (.invokevirtual 201, 3) := by decide +kernel
theorem dX10_drift_23 : decode cX10_drift 23 = .ok (.iconst 0, 1) := by decide +kernel
theorem dX10_drift_24 : decode cX10_drift 24 = .ok (.istore_n 3, 1) := by decide +kernel
theorem dX10_drift_25 : decode cX10_drift 25 = .ok (.iconst 0, 1) := by decide +kernel
theorem dX10_drift_26 : decode cX10_drift 26 = .ok (.istore 4, 2) := by decide +kernel
theorem dX10_drift_28 : decode cX10_drift 28 = .ok (.iload 4, 2) := by decide +kernel
theorem dX10_drift_30 : decode cX10_drift 30 = .ok (.iload_n 1, 1) := by decide +kernel
theorem dX10_drift_34 : decode cX10_drift 34 = .ok (.aload_n 0, 1) := by decide +kernel
theorem dX10_drift_35 : decode cX10_drift 35 = .ok (.invokevirtual 222, 3) := by decide +kernel
theorem dX10_drift_38 : decode cX10_drift 38 = .ok (.aload_n 0, 1) := by decide +kernel
theorem dX10_drift_39 : decode cX10_drift 39 = .ok (.getfield 19, 3) := by decide +kernel
theorem dX10_drift_42 : decode cX10_drift 42 = .ok (.aload_n 0, 1) := by decide +kernel
theorem dX10_drift_43 : decode cX10_drift 43 = .ok (.getfield 71, 3) := by decide +kernel
theorem dX10_drift_46 : decode cX10_drift 46 = .ok (.invokevirtual 205, 3) := by decide +kernel
theorem dX10_drift_49 : decode cX10_drift 49 = .ok (.istore_n 3, 1) := by decide +kernel
theorem dX10_drift_50 : decode cX10_drift 50 = .ok (.iinc 4 1, 3) := by decide +kernel
theorem dX10_drift_53 : decode cX10_drift 53 = .ok (.goto (-25), 3) := by decide +kernel
theorem dX10_drift_31 : decode cX10_drift 31 = .ok (.if_icmp .ge 25, 3) := by decide +kernel
theorem dX10_drift_56 : decode cX10_drift 56 = .ok (.iload_n 3, 1) := by decide +kernel
theorem dX10_drift_57 : decode cX10_drift 57 = .ok (.ireturn, 1) := by decide +kernel
theorem dX10_drift_10 : decode cX10_drift 10 = .ok (.iload_n 2, 1) := by decide +kernel
theorem dX10_drift_11 : decode cX10_drift 11 = .ok (.ireturn, 1) := by decide +kernel
theorem dX10_drift_7 : decode cX10_drift 7 = .ok (.ifCond .eq 5, 3) := by decide +kernel
theorem lX10_drift_L28 (x : bo_X) (hx : bo_OK x cX10_drift RX10 5 4 95) (f1 : Int32) : ∀ (n : Nat) (w3 : Int32) (w4 : Int32) (σ : bo_M), bo_D x 28 [(0, .ref (bo_a x 0)), (1, .int f1), (3, .int w3), (4, .int w4)] [] σ (mX10_drift_L28 f1 n w3 w4 σ) (fun a => bo_N x 56 [(3, .int a.1)] [] a.2) := by
  intro n
  induction n with
  | zero => intro w3 w4 σ; exact bo_none
  | succ n ih =>
    intro w3 w4 σ
    rw [mX10_drift_L28]
    refine bo_iload hx dX10_drift_28 3 rfl ?_
    refine bo_iload_n hx dX10_drift_30 rfl 1 rfl ?_
    refine bo_icmp_ge hx 56 dX10_drift_31 (by decide) ?_ ?_
    · refine bo_sub (L' := [(3, .int w3)]) [2] rfl ?_
      exact bo_arr (fun h => h)
    · refine bo_aload_n hx dX10_drift_34 rfl 0 rfl ?_
      refine bo_goV hx (fun rr hh => bo_runV (As := []) (S := []) hx dX10_drift_35 lk_X10_222 mi_X10_stir bo_o_0 rfl rfl (kX10_stir (bo_l x) (bo_g x) hx.inj σ rr hh) ⟨by decide, by decide⟩ rfl rfl (Nat.le_of_ble_eq_true rfl)) (fun σ3 => ?_)
      refine bo_aload_n hx dX10_drift_38 rfl 0 rfl ?_
      refine gf_X10_19 hx dX10_drift_39 ?_
      refine bo_aload_n hx dX10_drift_42 rfl 0 rfl ?_
      refine gf_X10_71 hx dX10_drift_43 ?_
      refine bo_goW (z := false) hx (fun rr hh => bo_runV (As := [.ref (bo_a x (bo_inn (σ3 0 9)))]) (S := []) hx dX10_drift_46 lk_X10_205 mi_X2_pass bo_ev50.o rfl rfl (kX2_pass (bo_l x) (bo_g x) hx.inj σ3 50 (bo_inn (σ3 0 9)) bo_ev50 (bo_inn_ok (σ3 0 9)) rr hh) ⟨by decide, by decide⟩ rfl rfl (Nat.le_of_ble_eq_true rfl)) (fun a4 ha4 => ?_)
      refine bo_istore_n (L' := [(3, .int a4.1), (0, .ref (bo_a x 0)), (1, .int f1), (4, .int w4)]) hx dX10_drift_49 rfl (by decide) rfl ?_
      refine bo_iinc (L' := [(4, .int (w4 + 1)), (3, .int a4.1), (0, .ref (bo_a x 0)), (1, .int f1)]) (w := (w4 + 1)) hx dX10_drift_50 3 rfl rfl (by decide) rfl ?_
      refine bo_goto hx 28 dX10_drift_53 (by decide) ?_
      refine bo_sub (L' := [(0, .ref (bo_a x 0)), (1, .int f1), (3, .int a4.1), (4, .int (w4 + 1))]) [2, 3, 1, 0] rfl ?_
      exact ih a4.1 (w4 + 1) a4.2
theorem bX10_drift (x : bo_X) (hx : bo_OK x cX10_drift RX10 5 4 95) (σ : bo_M) (p1 : Int32) : bo_D x 0 [(0, .ref (bo_a x 0)), (1, .int p1)] [] σ (mX10_drift σ p1) (bo_Rw x cX10_drift false) := by
  unfold mX10_drift
  refine bo_aload_n hx dX10_drift_0 rfl 0 rfl ?_
  refine bo_iload_n hx dX10_drift_1 rfl 1 rfl ?_
  refine bo_goR (z := false) hx (fun rr hh => bo_runV (As := [.int p1]) (S := []) hx dX10_drift_2 lk_X10_198 mi_X10_refusedQuarters bo_o_0 rfl rfl (kX10_refusedQuarters (bo_l x) (bo_g x) hx.inj σ p1 rr hh) ⟨by decide, by decide⟩ rfl rfl (Nat.le_of_ble_eq_true rfl)) (fun v1 hv1 => ?_)
  refine bo_istore_n (L' := [(2, .int v1), (0, .ref (bo_a x 0)), (1, .int p1)]) hx dX10_drift_5 rfl (by decide) rfl ?_
  refine bo_iload_n hx dX10_drift_6 rfl 0 rfl ?_
  refine bo_if_eq hx 12 dX10_drift_7 (by decide) ?_ ?_
  · refine bo_aload_n hx dX10_drift_12 rfl 1 rfl ?_
    refine gf_X10_26 hx dX10_drift_13 ?_
    refine bo_aload_n hx dX10_drift_16 rfl 1 rfl ?_
    refine gf_X10_19 hx dX10_drift_17 ?_
    refine bo_goV hx (fun rr hh => bo_runV (As := [.ref (bo_a x 50)]) (S := []) hx dX10_drift_20 lk_X10_201 mi_X6_note bo_o_3 rfl rfl (kX6_note (bo_l x) (bo_g x) hx.inj σ 50 bo_ev50 rr hh) ⟨by decide, by decide⟩ rfl rfl (Nat.le_of_ble_eq_true rfl)) (fun σ2 => ?_)
    refine bo_iconst (v := 0) hx dX10_drift_23 (by decide) ?_
    refine bo_istore_n (L' := [(3, .int 0), (2, .int v1), (0, .ref (bo_a x 0)), (1, .int p1)]) hx dX10_drift_24 rfl (by decide) rfl ?_
    refine bo_iconst (v := 0) hx dX10_drift_25 (by decide) ?_
    refine bo_istore (L' := [(4, .int 0), (3, .int 0), (2, .int v1), (0, .ref (bo_a x 0)), (1, .int p1)]) hx dX10_drift_26 (by decide) rfl ?_
    refine bo_sub (L' := [(0, .ref (bo_a x 0)), (1, .int p1), (3, .int 0), (4, .int 0)]) [3, 4, 1, 0] rfl ?_
    refine bo_seq 56 (fun a => [(3, .int a.1)]) (fun a => []) (fun a => a.2) (lX10_drift_L28 x hx p1 bo_fuel 0 0 σ2) (fun a5 => ?_)
    refine bo_iload_n hx dX10_drift_56 rfl 0 rfl ?_
    exact bo_retw dX10_drift_57 (fun h => by cases h)
  · refine bo_iload_n hx dX10_drift_10 rfl 0 rfl ?_
    exact bo_retw dX10_drift_11 (fun h => by cases h)
theorem kX10_drift (l : Launch) (g : bo_G) (hi : bo_inj g) (σ : bo_M) (p1 : Int32) : bo_CW l g yX10_drift cX10_drift 5 (some .int) 4 95 [.ref (g.2.2 0), .int p1] σ false (mX10_drift σ p1) :=
  bo_metW rfl (Or.inl ⟨rfl, rfl⟩) (by decide) rfl hi (Nat.le_of_ble_eq_true rfl) (fun x e1 e2 hx => by subst e1; subst e2; exact bX10_drift x hx σ p1)
-- BellRope$Past.restore
theorem dX6_restore_0 : decode cX6_restore 0 = .ok (.aload_n 0, 1) := by decide +kernel
theorem dX6_restore_1 : decode cX6_restore 1 = .ok (.aload_n 0, 1) := by decide +kernel
theorem dX6_restore_2 : decode cX6_restore 2 = .ok (.getfield 18, 3) := by decide +kernel
theorem dX6_restore_5 : decode cX6_restore 5 = .ok (.iconst 1, 1) := by decide +kernel
theorem dX6_restore_6 : decode cX6_restore 6 = .ok (.isub, 1) := by decide +kernel
theorem dX6_restore_7 : decode cX6_restore 7 = .ok (.invokevirtual 25, 3) := by decide +kernel
theorem dX6_restore_10 : decode cX6_restore 10 = .ok (.astore_n 2, 1) := by decide +kernel
theorem dX6_restore_11 : decode cX6_restore 11 = .ok (.aload_n 2, 1) := by decide +kernel
theorem dX6_restore_12 : decode cX6_restore 12 = .ok (.ifnonnull 5, 3) := by decide +kernel
theorem dX6_restore_15 : decode cX6_restore 15 = .ok (.iconst 0, 1) := by decide +kernel
theorem dX6_restore_16 : decode cX6_restore 16 = .ok (.ireturn, 1) := by decide +kernel
theorem dX6_restore_17 : decode cX6_restore 17 = .ok (.aload_n 0, 1) := by decide +kernel
theorem dX6_restore_18 : decode cX6_restore 18 = .ok (.dup, 1) := by decide +kernel
theorem dX6_restore_19 : decode cX6_restore 19 = .ok (.getfield 18, 3) := by decide +kernel
theorem dX6_restore_22 : decode cX6_restore 22 = .ok (.iconst 1, 1) := by decide +kernel
theorem dX6_restore_23 : decode cX6_restore 23 = .ok (.isub, 1) := by decide +kernel
theorem dX6_restore_24 : decode cX6_restore 24 = .ok (.putfield 18, 3) := by decide +kernel
theorem dX6_restore_27 : decode cX6_restore 27 = .ok (.aload_n 1, 1) := by decide +kernel
theorem dX6_restore_28 : decode cX6_restore 28 = .ok (.aload_n 2, 1) := by decide +kernel
theorem dX6_restore_29 : decode cX6_restore 29 = .ok (.invokevirtual 29, 3) := by decide +kernel
theorem dX6_restore_32 : decode cX6_restore 32 = .ok (.iconst 1, 1) := by decide +kernel
theorem dX6_restore_33 : decode cX6_restore 33 = .ok (.ireturn, 1) := by decide +kernel
theorem bX6_restore (x : bo_X) (hx : bo_OK x cX6_restore RX6 3 2 43) (σ : bo_M) (r1 : Nat) (hr1 : bo_isEv r1) : bo_D x 0 [(0, .ref (bo_a x 3)), (1, .ref (bo_a x r1))] [] σ (mX6_restore σ r1) (bo_Rw x cX6_restore true) := by
  unfold mX6_restore
  refine bo_aload_n hx dX6_restore_0 rfl 0 rfl ?_
  refine bo_aload_n hx dX6_restore_1 rfl 0 rfl ?_
  refine gf_X6_18 hx dX6_restore_2 ?_
  refine bo_iconst (v := 1) hx dX6_restore_5 (by decide) ?_
  refine bo_isub hx dX6_restore_6 ?_
  refine bo_goQ hx (fun rr hh => bo_runV (As := [.int ((σ 3 1) - 1)]) (S := []) hx dX6_restore_7 lk_X6_25 mi_X6_evening bo_o_3 rfl rfl (kX6_evening (bo_l x) (bo_g x) hx.inj σ ((σ 3 1) - 1) rr hh) ⟨by decide, by decide⟩ rfl rfl (Nat.le_of_ble_eq_true rfl)) ?_ ?_
  · refine bo_astore_nN (L' := [(2, .null), (0, .ref (bo_a x 3)), (1, .ref (bo_a x r1))]) hx dX6_restore_10 rfl (by decide) rfl ?_
    refine bo_aload_nN hx dX6_restore_11 rfl 0 rfl ?_
    refine bo_ifnonnullN hx dX6_restore_12 ?_
    refine bo_iconst (v := 0) hx dX6_restore_15 (by decide) ?_
    exact bo_retw dX6_restore_16 (fun _ => bo_b_0)
  · intro c1
    refine bo_astore_n (L' := [(2, .ref (bo_a x (bo_ev c1))), (0, .ref (bo_a x 3)), (1, .ref (bo_a x r1))]) hx dX6_restore_10 rfl (by decide) rfl ?_
    refine bo_aload_n hx dX6_restore_11 rfl 0 rfl ?_
    refine bo_ifnonnull hx 17 dX6_restore_12 (by decide) ?_
    refine bo_aload_n hx dX6_restore_17 rfl 1 rfl ?_
    refine bo_dup hx dX6_restore_18 rfl ?_
    refine gf_X6_18 hx dX6_restore_19 ?_
    refine bo_iconst (v := 1) hx dX6_restore_22 (by decide) ?_
    refine bo_isub hx dX6_restore_23 ?_
    refine pf_X6_18 hx dX6_restore_24 (fun σ2 => ?_)
    refine bo_aload_n hx dX6_restore_27 rfl 2 rfl ?_
    refine bo_aload_n hx dX6_restore_28 rfl 0 rfl ?_
    refine bo_goV hx (fun rr hh => bo_runV (As := [.ref (bo_a x (bo_ev c1))]) (S := []) hx dX6_restore_29 lk_X6_29 mi_X2_become hr1.o rfl rfl (kX2_become (bo_l x) (bo_g x) hx.inj σ2 r1 (bo_ev c1) hr1 (bo_ev_ok c1) rr hh) ⟨by decide, by decide⟩ rfl rfl (Nat.le_of_ble_eq_true rfl)) (fun σ3 => ?_)
    refine bo_iconst (v := 1) hx dX6_restore_32 (by decide) ?_
    exact bo_retw dX6_restore_33 (fun _ => bo_b_1)
theorem kX6_restore (l : Launch) (g : bo_G) (hi : bo_inj g) (σ : bo_M) (r1 : Nat) (hr1 : bo_isEv r1) : bo_CW l g yX6_restore cX6_restore 3 (some .boolean) 2 43 [.ref (g.2.2 3), .ref (g.2.2 r1)] σ true (mX6_restore σ r1) :=
  bo_metW rfl (Or.inr ⟨rfl, rfl⟩) (by decide) rfl hi (Nat.le_of_ble_eq_true rfl) (fun x e1 e2 hx => by subst e1; subst e2; exact bX6_restore x hx σ r1 hr1)
-- BellRope.undo
theorem dX10_undo_0 : decode cX10_undo 0 = .ok (.aload_n 0, 1) := by decide +kernel
theorem dX10_undo_1 : decode cX10_undo 1 = .ok (.getfield 26, 3) := by decide +kernel
theorem dX10_undo_4 : decode cX10_undo 4 = .ok (.aload_n 0, 1) := by decide +kernel
theorem dX10_undo_5 : decode cX10_undo 5 = .ok (.getfield 19, 3) := by decide +kernel
theorem dX10_undo_8 : decode cX10_undo 8 = .ok (.invokevirtual 225, 3) := by decide +kernel
theorem dX10_undo_24 : decode cX10_undo 24 = .ok (.ldc 208, 2) := by decide +kernel
theorem dX10_undo_26 : decode cX10_undo 26 = .ok (.ireturn, 1) := by decide +kernel
theorem dX10_undo_14 : decode cX10_undo 14 = .ok (.aload_n 0, 1) := by decide +kernel
theorem dX10_undo_15 : decode cX10_undo 15 = .ok (.getfield 26, 3) := by decide +kernel
theorem dX10_undo_18 : decode cX10_undo 18 = .ok (.getfield 95, 3) := by decide +kernel
theorem dX10_undo_21 : decode cX10_undo 21 = .ok (.goto 5, 3) := by decide +kernel
theorem dX10_undo_11 : decode cX10_undo 11 = .ok (.ifCond .eq 13, 3) := by decide +kernel
theorem bX10_undo (x : bo_X) (hx : bo_OK x cX10_undo RX10 1 3 65) (σ : bo_M) : bo_D x 0 [(0, .ref (bo_a x 0))] [] σ (mX10_undo σ) (bo_Rw x cX10_undo false) := by
  unfold mX10_undo
  refine bo_aload_n hx dX10_undo_0 rfl 0 rfl ?_
  refine gf_X10_26 hx dX10_undo_1 ?_
  refine bo_aload_n hx dX10_undo_4 rfl 0 rfl ?_
  refine gf_X10_19 hx dX10_undo_5 ?_
  refine bo_goW (z := true) hx (fun rr hh => bo_runV (As := [.ref (bo_a x 50)]) (S := []) hx dX10_undo_8 lk_X10_225 mi_X6_restore bo_o_3 rfl rfl (kX6_restore (bo_l x) (bo_g x) hx.inj σ 50 bo_ev50 rr hh) ⟨by decide, by decide⟩ rfl rfl (Nat.le_of_ble_eq_true rfl)) (fun a1 ha1 => ?_)
  refine bo_if_eq hx 24 dX10_undo_11 (by decide) ?_ ?_
  · refine bo_ldc (v := (-1000000003)) hx dX10_undo_24 wc_X10_208 ?_
    exact bo_retw dX10_undo_26 (fun h => by cases h)
  · refine bo_aload_n hx dX10_undo_14 rfl 0 rfl ?_
    refine gf_X10_26 hx dX10_undo_15 ?_
    refine gf_X10_95 hx dX10_undo_18 ?_
    refine bo_goto hx 26 dX10_undo_21 (by decide) ?_
    exact bo_retw dX10_undo_26 (fun h => by cases h)
theorem kX10_undo (l : Launch) (g : bo_G) (hi : bo_inj g) (σ : bo_M) : bo_CW l g yX10_undo cX10_undo 1 (some .int) 3 65 [.ref (g.2.2 0)] σ false (mX10_undo σ) :=
  bo_metW rfl (Or.inl ⟨rfl, rfl⟩) (by decide) rfl hi (Nat.le_of_ble_eq_true rfl) (fun x e1 e2 hx => by subst e1; subst e2; exact bX10_undo x hx σ)
-- BellRope$Trial.run
theorem dX9_run_0 : decode cX9_run 0 = .ok (.aload_n 0, 1) := by decide +kernel
theorem dX9_run_1 : decode cX9_run 1 = .ok (.getfield 12, 3) := by decide +kernel
theorem dX9_run_4 : decode cX9_run 4 = .ok (.aload_n 2, 1) := by decide +kernel
theorem dX9_run_5 : decode cX9_run 5 = .ok (.invokevirtual 22, 3) := by decide +kernel
theorem dX9_run_8 : decode cX9_run 8 = .ok (.iconst 0, 1) := by decide +kernel
theorem dX9_run_9 : decode cX9_run 9 = .ok (.istore 4, 2) := by decide +kernel
theorem dX9_run_11 : decode cX9_run 11 = .ok (.iload 4, 2) := by decide +kernel
theorem dX9_run_13 : decode cX9_run 13 = .ok (.iload_n 3, 1) := by decide +kernel
theorem dX9_run_17 : decode cX9_run 17 = .ok (.iload 4, 2) := by decide +kernel
theorem dX9_run_19 : decode cX9_run 19 = .ok (.sipush 192, 3) := by decide +kernel
theorem dX9_run_25 : decode cX9_run 25 = .ok (.aload_n 0, 1) := by decide +kernel
theorem dX9_run_26 : decode cX9_run 26 = .ok (.getfield 18, 3) := by decide +kernel
theorem dX9_run_29 : decode cX9_run 29 = .ok (.iload 4, 2) := by decide +kernel
theorem dX9_run_31 : decode cX9_run 31 = .ok (.aload_n 0, 1) := by decide +kernel
theorem dX9_run_32 : decode cX9_run 32 = .ok (.getfield 12, 3) := by decide +kernel
theorem dX9_run_35 : decode cX9_run 35 = .ok (.aload_n 1, 1) := by decide +kernel
theorem dX9_run_36 : decode cX9_run 36 = .ok (.invokevirtual 26, 3) := by decide +kernel
theorem dX9_run_39 : decode cX9_run 39 = .ok (.invokestatic 30, 3) := by decide +kernel
theorem dX9_run_42 : decode cX9_run 42 = .ok (.iinc 4 1, 3) := by decide +kernel
theorem dX9_run_45 : decode cX9_run 45 = .ok (.goto (-34), 3) := by decide +kernel
theorem dX9_run_22 : decode cX9_run 22 = .ok (.if_icmp .ge 26, 3) := by decide +kernel
theorem dX9_run_14 : decode cX9_run 14 = .ok (.if_icmp .ge 34, 3) := by decide +kernel
theorem dX9_run_48 : decode cX9_run 48 = .ok (.return_, 1) := by decide +kernel
theorem lX9_run_L11 (x : bo_X) (hx : bo_OK x cX9_run RX9 5 4 95) (f1 : Nat) (f3 : Int32) (hf1 : bo_isInn f1) : ∀ (n : Nat) (w4 : Int32) (σ : bo_M), bo_D x 11 [(0, .ref (bo_a x 17)), (1, .ref (bo_a x f1)), (3, .int f3), (4, .int w4)] [] σ (mX9_run_L11 f1 f3 n w4 σ) (fun a => bo_N x 48 [] [] a) := by
  intro n
  induction n with
  | zero => intro w4 σ; exact bo_none
  | succ n ih =>
    intro w4 σ
    rw [mX9_run_L11]
    refine bo_iload hx dX9_run_11 3 rfl ?_
    refine bo_iload_n hx dX9_run_13 rfl 2 rfl ?_
    refine bo_icmp_ge hx 48 dX9_run_14 (by decide) ?_ ?_
    · refine bo_sub (L' := []) [] rfl ?_
      exact bo_arr (fun h => h)
    · refine bo_iload hx dX9_run_17 3 rfl ?_
      refine bo_sipush (v := 192) hx dX9_run_19 (by decide) ?_
      refine bo_icmp_ge hx 48 dX9_run_22 (by decide) ?_ ?_
      · refine bo_sub (L' := []) [] rfl ?_
        exact bo_arr (fun h => h)
      · refine bo_aload_n hx dX9_run_25 rfl 0 rfl ?_
        refine gf_X9_18 hx dX9_run_26 ?_
        refine bo_iload hx dX9_run_29 3 rfl ?_
        refine bo_aload_n hx dX9_run_31 rfl 0 rfl ?_
        refine gf_X9_12 hx dX9_run_32 ?_
        refine bo_aload_n hx dX9_run_35 rfl 1 rfl ?_
        refine bo_goW (z := false) hx (fun rr hh => bo_runV (As := [.ref (bo_a x f1)]) (S := [.int w4, .ref (bo_a x 23)]) hx dX9_run_36 lk_X9_26 mi_X2_pass bo_ev18.o rfl rfl (kX2_pass (bo_l x) (bo_g x) hx.inj σ 18 f1 bo_ev18 hf1 rr hh) ⟨by decide, by decide⟩ rfl rfl (Nat.le_of_ble_eq_true rfl)) (fun a2 ha2 => ?_)
        refine bo_goV hx (fun rr hh => bo_runS (As := [.ref (bo_a x 23), .int w4, .int a2.1]) (S := []) hx dX9_run_39 lk_X9_30 ms_X8_put (kX8_put (bo_l x) (bo_g x) hx.inj a2.2 192 23 w4 a2.1 bo_c_23 rr hh) ⟨by decide, by decide⟩ rfl rfl (Nat.le_of_ble_eq_true rfl)) (fun σ3 => ?_)
        refine bo_iinc (L' := [(4, .int (w4 + 1)), (0, .ref (bo_a x 17)), (1, .ref (bo_a x f1)), (3, .int f3)]) (w := (w4 + 1)) hx dX9_run_42 3 rfl rfl (by decide) rfl ?_
        refine bo_goto hx 11 dX9_run_45 (by decide) ?_
        refine bo_sub (L' := [(0, .ref (bo_a x 17)), (1, .ref (bo_a x f1)), (3, .int f3), (4, .int (w4 + 1))]) [1, 2, 3, 0] rfl ?_
        exact ih (w4 + 1) σ3
theorem bX9_run (x : bo_X) (hx : bo_OK x cX9_run RX9 5 4 95) (σ : bo_M) (r1 : Nat) (r2 : Nat) (p3 : Int32) (hr1 : bo_isInn r1) (hr2 : bo_isEv r2) : bo_D x 0 [(0, .ref (bo_a x 17)), (1, .ref (bo_a x r1)), (2, .ref (bo_a x r2)), (3, .int p3)] [] σ (mX9_run σ r1 r2 p3) (bo_Rv x cX9_run) := by
  unfold mX9_run
  refine bo_aload_n hx dX9_run_0 rfl 0 rfl ?_
  refine gf_X9_12 hx dX9_run_1 ?_
  refine bo_aload_n hx dX9_run_4 rfl 2 rfl ?_
  refine bo_goV hx (fun rr hh => bo_runV (As := [.ref (bo_a x r2)]) (S := []) hx dX9_run_5 lk_X9_22 mi_X2_become bo_ev18.o rfl rfl (kX2_become (bo_l x) (bo_g x) hx.inj σ 18 r2 bo_ev18 hr2 rr hh) ⟨by decide, by decide⟩ rfl rfl (Nat.le_of_ble_eq_true rfl)) (fun σ1 => ?_)
  refine bo_iconst (v := 0) hx dX9_run_8 (by decide) ?_
  refine bo_istore (L' := [(4, .int 0), (0, .ref (bo_a x 17)), (1, .ref (bo_a x r1)), (2, .ref (bo_a x r2)), (3, .int p3)]) hx dX9_run_9 (by decide) rfl ?_
  refine bo_sub (L' := [(0, .ref (bo_a x 17)), (1, .ref (bo_a x r1)), (3, .int p3), (4, .int 0)]) [1, 2, 4, 0] rfl ?_
  refine bo_seq 48 (fun a => []) (fun a => []) (fun a => a) (lX9_run_L11 x hx r1 p3 hr1 bo_fuel 0 σ1) (fun a4 => ?_)
  exact bo_retv dX9_run_48
theorem kX9_run (l : Launch) (g : bo_G) (hi : bo_inj g) (σ : bo_M) (r1 : Nat) (r2 : Nat) (p3 : Int32) (hr1 : bo_isInn r1) (hr2 : bo_isEv r2) : bo_CV l g yX9_run cX9_run 5 none 4 95 [.ref (g.2.2 17), .ref (g.2.2 r1), .ref (g.2.2 r2), .int p3] σ (mX9_run σ r1 r2 p3) :=
  bo_metV rfl  (by decide) rfl hi (Nat.le_of_ble_eq_true rfl) (fun x e1 e2 hx => by subst e1; subst e2; exact bX9_run x hx σ r1 r2 p3 hr1 hr2)
-- BellRope.strikes
theorem dX10_strikes_0 : decode cX10_strikes 0 = .ok (.aload_n 0, 1) := by decide +kernel
theorem dX10_strikes_1 : decode cX10_strikes 1 = .ok (.iload_n 1, 1) := by decide +kernel
theorem dX10_strikes_12 : decode cX10_strikes 12 = .ok (.iconst 1, 1) := by decide +kernel
theorem dX10_strikes_13 : decode cX10_strikes 13 = .ok (.goto 4, 3) := by decide +kernel
theorem dX10_strikes_5 : decode cX10_strikes 5 = .ok (.iload_n 1, 1) := by decide +kernel
theorem dX10_strikes_6 : decode cX10_strikes 6 = .ok (.sipush 192, 3) := by decide +kernel
theorem dX10_strikes_16 : decode cX10_strikes 16 = .ok (.iconst 0, 1) := by decide +kernel
theorem dX10_strikes_9 : decode cX10_strikes 9 = .ok (.if_icmp .lt 7, 3) := by decide +kernel
theorem dX10_strikes_2 : decode cX10_strikes 2 = .ok (.ifCond .lt 10, 3) := by decide +kernel
theorem dX10_strikes_17 : decode cX10_strikes 17 = .ok (.invokevirtual 218, 3) := by decide +kernel
theorem dX10_strikes_20 : decode cX10_strikes 20 = .ok (.istore_n 2, 1) := by decide +kernel
theorem dX10_strikes_21 : decode cX10_strikes 21 = .ok (.iload_n 2, 1) := by decide +kernel
theorem dX10_strikes_27 : decode cX10_strikes 27 = .ok (.aload_n 0, 1) := by decide +kernel
theorem dX10_strikes_28 : decode cX10_strikes 28 = .ok (.getfield 43, 3) := by decide +kernel
theorem dX10_strikes_31 : decode cX10_strikes 31 = .ok (.aload_n 0, 1) := by decide +kernel
theorem dX10_strikes_32 : decode cX10_strikes 32 = .ok (.getfield 71, 3) := by decide +kernel
theorem dX10_strikes_35 : decode cX10_strikes 35 = .ok (.aload_n 0, 1) := by decide +kernel
theorem dX10_strikes_36 : decode cX10_strikes 36 = .ok (.getfield 19, 3) := by decide +kernel
theorem dX10_strikes_39 : decode cX10_strikes 39 = .ok (.iload_n 1, 1) := by decide +kernel
theorem dX10_strikes_40 : decode cX10_strikes 40 = .ok (.iconst 1, 1) := by decide +kernel
theorem dX10_strikes_41 : decode cX10_strikes 41 = .ok (.iadd, 1) := by decide +kernel
theorem dX10_strikes_42 : decode cX10_strikes 42 = .ok (.invokevirtual 229, 3) := by decide +kernel
theorem dX10_strikes_45 : decode cX10_strikes 45 = .ok (.aload_n 0, 1) := by decide +kernel
theorem dX10_strikes_46 : decode cX10_strikes 46 = .ok (.getfield 43, 3) := by decide +kernel
theorem dX10_strikes_49 : decode cX10_strikes 49 = .ok (.getfield 233, 3) := by decide +kernel
theorem dX10_strikes_52 : decode cX10_strikes 52 = .ok (.iload_n 1, 1) := by decide +kernel
theorem dX10_strikes_53 : decode cX10_strikes 53 = .ok (.invokestatic 154, 3) := by decide +kernel
theorem dX10_strikes_56 : decode cX10_strikes 56 = .ok (.ireturn, 1) := by decide +kernel
theorem dX10_strikes_25 : decode cX10_strikes 25 = .ok (.iload_n 2, 1) := by decide +kernel
theorem dX10_strikes_26 : decode cX10_strikes 26 = .ok (.ireturn, 1) := by decide +kernel
theorem dX10_strikes_22 : decode cX10_strikes 22 = .ok (.ifCond .eq 5, 3) := by decide +kernel
theorem bX10_strikes (x : bo_X) (hx : bo_OK x cX10_strikes RX10 3 5 119) (σ : bo_M) (p1 : Int32) : bo_D x 0 [(0, .ref (bo_a x 0)), (1, .int p1)] [] σ (mX10_strikes σ p1) (bo_Rw x cX10_strikes false) := by
  unfold mX10_strikes
  refine bo_aload_n hx dX10_strikes_0 rfl 0 rfl ?_
  refine bo_iload_n hx dX10_strikes_1 rfl 1 rfl ?_
  refine bo_seq 17 (fun a => [(0, .ref (bo_a x 0)), (1, .int p1)]) (fun a => [.int a, .ref (bo_a x 0)]) (fun a => σ) ?_ (fun a1 => ?_)
  · refine bo_if_lt hx 12 dX10_strikes_2 (by decide) ?_ ?_
    · refine bo_iconst (v := 1) hx dX10_strikes_12 (by decide) ?_
      refine bo_goto hx 17 dX10_strikes_13 (by decide) ?_
      exact bo_arr (fun h => h)
    · refine bo_iload_n hx dX10_strikes_5 rfl 1 rfl ?_
      refine bo_sipush (v := 192) hx dX10_strikes_6 (by decide) ?_
      refine bo_icmp_lt hx 16 dX10_strikes_9 (by decide) ?_ ?_
      · refine bo_iconst (v := 0) hx dX10_strikes_16 (by decide) ?_
        exact bo_arr (fun h => h)
      · refine bo_iconst (v := 1) hx dX10_strikes_12 (by decide) ?_
        refine bo_goto hx 17 dX10_strikes_13 (by decide) ?_
        exact bo_arr (fun h => h)
  · refine bo_goR (z := false) hx (fun rr hh => bo_runV (As := [.int a1]) (S := []) hx dX10_strikes_17 lk_X10_218 mi_X10_refused bo_o_0 rfl rfl (kX10_refused (bo_l x) (bo_g x) hx.inj σ a1 rr hh) ⟨by decide, by decide⟩ rfl rfl (Nat.le_of_ble_eq_true rfl)) (fun v2 hv2 => ?_)
    refine bo_istore_n (L' := [(2, .int v2), (0, .ref (bo_a x 0)), (1, .int p1)]) hx dX10_strikes_20 rfl (by decide) rfl ?_
    refine bo_iload_n hx dX10_strikes_21 rfl 0 rfl ?_
    refine bo_if_eq hx 27 dX10_strikes_22 (by decide) ?_ ?_
    · refine bo_aload_n hx dX10_strikes_27 rfl 1 rfl ?_
      refine gf_X10_43 hx dX10_strikes_28 ?_
      refine bo_aload_n hx dX10_strikes_31 rfl 1 rfl ?_
      refine gf_X10_71 hx dX10_strikes_32 ?_
      refine bo_aload_n hx dX10_strikes_35 rfl 1 rfl ?_
      refine gf_X10_19 hx dX10_strikes_36 ?_
      refine bo_iload_n hx dX10_strikes_39 rfl 2 rfl ?_
      refine bo_iconst (v := 1) hx dX10_strikes_40 (by decide) ?_
      refine bo_iadd hx dX10_strikes_41 ?_
      refine bo_goV hx (fun rr hh => bo_runV (As := [.ref (bo_a x (bo_inn (σ 0 9))), .ref (bo_a x 50), .int (p1 + 1)]) (S := []) hx dX10_strikes_42 lk_X10_229 mi_X9_run bo_o_17 rfl rfl (kX9_run (bo_l x) (bo_g x) hx.inj σ (bo_inn (σ 0 9)) 50 (p1 + 1) (bo_inn_ok (σ 0 9)) bo_ev50 rr hh) ⟨by decide, by decide⟩ rfl rfl (Nat.le_of_ble_eq_true rfl)) (fun σ3 => ?_)
      refine bo_aload_n hx dX10_strikes_45 rfl 1 rfl ?_
      refine gf_X10_43 hx dX10_strikes_46 ?_
      refine gf_X10_233 hx dX10_strikes_49 ?_
      refine bo_iload_n hx dX10_strikes_52 rfl 2 rfl ?_
      refine bo_goR (z := false) hx (fun rr hh => bo_runS (As := [.ref (bo_a x 23), .int p1]) (S := []) hx dX10_strikes_53 lk_X10_154 ms_X8_at (kX8_at (bo_l x) (bo_g x) hx.inj σ3 192 23 p1 bo_c_23 rr hh) ⟨by decide, by decide⟩ rfl rfl (Nat.le_of_ble_eq_true rfl)) (fun v4 hv4 => ?_)
      exact bo_retw dX10_strikes_56 (fun h => by cases h)
    · refine bo_iload_n hx dX10_strikes_25 rfl 0 rfl ?_
      exact bo_retw dX10_strikes_26 (fun h => by cases h)
theorem kX10_strikes (l : Launch) (g : bo_G) (hi : bo_inj g) (σ : bo_M) (p1 : Int32) : bo_CW l g yX10_strikes cX10_strikes 3 (some .int) 5 119 [.ref (g.2.2 0), .int p1] σ false (mX10_strikes σ p1) :=
  bo_metW rfl (Or.inl ⟨rfl, rfl⟩) (by decide) rfl hi (Nat.le_of_ble_eq_true rfl) (fun x e1 e2 hx => by subst e1; subst e2; exact bX10_strikes x hx σ p1)
-- BellRope$Trial.firstHeard
theorem dX9_firstHeard_0 : decode cX9_firstHeard 0 = .ok (.iconst 0, 1) := by decide +kernel
theorem dX9_firstHeard_1 : decode cX9_firstHeard 1 = .ok (.istore_n 3, 1) := by decide +kernel
theorem dX9_firstHeard_2 : decode cX9_firstHeard 2 = .ok (.iload_n 3, 1) := by decide +kernel
theorem dX9_firstHeard_3 : decode cX9_firstHeard 3 = .ok (.iload_n 2, 1) := by decide +kernel
theorem dX9_firstHeard_34 : decode cX9_firstHeard 34 = .ok (.iconst (-1), 1) := by decide +kernel
theorem dX9_firstHeard_35 : decode cX9_firstHeard 35 = .ok (.ireturn, 1) := by decide +kernel
theorem dX9_firstHeard_7 : decode cX9_firstHeard 7 = .ok (.iload_n 3, 1) := by decide +kernel
theorem dX9_firstHeard_8 : decode cX9_firstHeard 8 = .ok (.sipush 192, 3) := by decide +kernel
theorem dX9_firstHeard_14 : decode cX9_firstHeard 14 = .ok (.aload_n 0, 1) := by decide +kernel
theorem dX9_firstHeard_15 : decode cX9_firstHeard 15 = .ok (.getfield 18, 3) := by decide +kernel
theorem dX9_firstHeard_18 : decode cX9_firstHeard 18 = .ok (.iload_n 3, 1) := by decide +kernel
theorem dX9_firstHeard_19 : decode cX9_firstHeard 19 = .ok (.invokestatic 36, 3) := by decide +kernel
theorem dX9_firstHeard_22 : decode cX9_firstHeard 22 = .ok (.iload_n 1, 1) := by decide +kernel
theorem dX9_firstHeard_28 : decode cX9_firstHeard 28 = .ok (.iinc 3 1, 3) := by decide +kernel
theorem dX9_firstHeard_31 : decode cX9_firstHeard 31 = .ok (.goto (-29), 3) := by decide +kernel
theorem dX9_firstHeard_26 : decode cX9_firstHeard 26 = .ok (.iload_n 3, 1) := by decide +kernel
theorem dX9_firstHeard_27 : decode cX9_firstHeard 27 = .ok (.ireturn, 1) := by decide +kernel
theorem dX9_firstHeard_23 : decode cX9_firstHeard 23 = .ok (.if_icmp .lt 5, 3) := by decide +kernel
theorem dX9_firstHeard_11 : decode cX9_firstHeard 11 = .ok (.if_icmp .ge 23, 3) := by decide +kernel
theorem dX9_firstHeard_4 : decode cX9_firstHeard 4 = .ok (.if_icmp .ge 30, 3) := by decide +kernel
theorem lX9_firstHeard_L2 (x : bo_X) (hx : bo_OK x cX9_firstHeard RX9 4 1 21) (σ : bo_M) (f1 : Int32) (f2 : Int32) : ∀ (n : Nat) (w3 : Int32), bo_D x 2 [(0, .ref (bo_a x 17)), (1, .int f1), (2, .int f2), (3, .int w3)] [] σ (mX9_firstHeard_L2 σ f1 f2 n w3) (bo_Ri x cX9_firstHeard σ false) := by
  intro n
  induction n with
  | zero => intro w3; exact bo_none
  | succ n ih =>
    intro w3
    rw [mX9_firstHeard_L2]
    refine bo_iload_n hx dX9_firstHeard_2 rfl 3 rfl ?_
    refine bo_iload_n hx dX9_firstHeard_3 rfl 2 rfl ?_
    refine bo_icmp_ge hx 34 dX9_firstHeard_4 (by decide) ?_ ?_
    · refine bo_iconst (v := (-1)) hx dX9_firstHeard_34 (by decide) ?_
      exact bo_ret dX9_firstHeard_35 (fun h => by cases h)
    · refine bo_iload_n hx dX9_firstHeard_7 rfl 3 rfl ?_
      refine bo_sipush (v := 192) hx dX9_firstHeard_8 (by decide) ?_
      refine bo_icmp_ge hx 34 dX9_firstHeard_11 (by decide) ?_ ?_
      · refine bo_iconst (v := (-1)) hx dX9_firstHeard_34 (by decide) ?_
        exact bo_ret dX9_firstHeard_35 (fun h => by cases h)
      · refine bo_aload_n hx dX9_firstHeard_14 rfl 0 rfl ?_
        refine gf_X9_18 hx dX9_firstHeard_15 ?_
        refine bo_iload_n hx dX9_firstHeard_18 rfl 3 rfl ?_
        refine bo_goR (z := false) hx (fun rr hh => bo_runS (As := [.ref (bo_a x 23), .int w3]) (S := []) hx dX9_firstHeard_19 lk_X9_36 ms_X8_at (kX8_at (bo_l x) (bo_g x) hx.inj σ 192 23 w3 bo_c_23 rr hh) ⟨by decide, by decide⟩ rfl rfl (Nat.le_of_ble_eq_true rfl)) (fun v1 hv1 => ?_)
        refine bo_iload_n hx dX9_firstHeard_22 rfl 1 rfl ?_
        refine bo_icmp_lt hx 28 dX9_firstHeard_23 (by decide) ?_ ?_
        · refine bo_iinc (L' := [(3, .int (w3 + 1)), (0, .ref (bo_a x 17)), (1, .int f1), (2, .int f2)]) (w := (w3 + 1)) hx dX9_firstHeard_28 3 rfl rfl (by decide) rfl ?_
          refine bo_goto hx 2 dX9_firstHeard_31 (by decide) ?_
          refine bo_sub (L' := [(0, .ref (bo_a x 17)), (1, .int f1), (2, .int f2), (3, .int (w3 + 1))]) [1, 2, 3, 0] rfl ?_
          exact ih (w3 + 1)
        · refine bo_iload_n hx dX9_firstHeard_26 rfl 3 rfl ?_
          exact bo_ret dX9_firstHeard_27 (fun h => by cases h)
theorem bX9_firstHeard (x : bo_X) (hx : bo_OK x cX9_firstHeard RX9 4 1 21) (σ : bo_M) (p1 : Int32) (p2 : Int32) : bo_D x 0 [(0, .ref (bo_a x 17)), (1, .int p1), (2, .int p2)] [] σ (mX9_firstHeard σ p1 p2) (bo_Ri x cX9_firstHeard σ false) := by
  unfold mX9_firstHeard
  refine bo_iconst (v := 0) hx dX9_firstHeard_0 (by decide) ?_
  refine bo_istore_n (L' := [(3, .int 0), (0, .ref (bo_a x 17)), (1, .int p1), (2, .int p2)]) hx dX9_firstHeard_1 rfl (by decide) rfl ?_
  refine bo_sub (L' := [(0, .ref (bo_a x 17)), (1, .int p1), (2, .int p2), (3, .int 0)]) [1, 2, 3, 0] rfl ?_
  exact lX9_firstHeard_L2 x hx σ p1 p2 bo_fuel 0
theorem kX9_firstHeard (l : Launch) (g : bo_G) (hi : bo_inj g) (σ : bo_M) (p1 : Int32) (p2 : Int32) : bo_CR l g yX9_firstHeard cX9_firstHeard 4 (some .int) 1 21 [.ref (g.2.2 17), .int p1, .int p2] σ false (mX9_firstHeard σ p1 p2) :=
  bo_metR rfl (Or.inl ⟨rfl, rfl⟩) (by decide) rfl hi (Nat.le_of_ble_eq_true rfl) (fun x e1 e2 hx => by subst e1; subst e2; exact bX9_firstHeard x hx σ p1 p2)
-- BellRope.when
theorem dX10_when_0 : decode cX10_when 0 = .ok (.aload_n 0, 1) := by decide +kernel
theorem dX10_when_1 : decode cX10_when 1 = .ok (.iload_n 1, 1) := by decide +kernel
theorem dX10_when_2 : decode cX10_when 2 = .ok (.iconst 1, 1) := by decide +kernel
theorem dX10_when_12 : decode cX10_when 12 = .ok (.iconst 1, 1) := by decide +kernel
theorem dX10_when_13 : decode cX10_when 13 = .ok (.goto 4, 3) := by decide +kernel
theorem dX10_when_6 : decode cX10_when 6 = .ok (.iload_n 1, 1) := by decide +kernel
theorem dX10_when_7 : decode cX10_when 7 = .ok (.bipush 16, 2) := by decide +kernel
theorem dX10_when_16 : decode cX10_when 16 = .ok (.iconst 0, 1) := by decide +kernel
theorem dX10_when_9 : decode cX10_when 9 = .ok (.if_icmp .le 7, 3) := by decide +kernel
theorem dX10_when_3 : decode cX10_when 3 = .ok (.if_icmp .lt 9, 3) := by decide +kernel
theorem dX10_when_17 : decode cX10_when 17 = .ok (.invokevirtual 218, 3) := by decide +kernel
theorem dX10_when_20 : decode cX10_when 20 = .ok (.istore_n 2, 1) := by decide +kernel
theorem dX10_when_21 : decode cX10_when 21 = .ok (.iload_n 2, 1) := by decide +kernel
theorem dX10_when_27 : decode cX10_when 27 = .ok (.aload_n 0, 1) := by decide +kernel
theorem dX10_when_28 : decode cX10_when 28 = .ok (.getfield 43, 3) := by decide +kernel
theorem dX10_when_31 : decode cX10_when 31 = .ok (.aload_n 0, 1) := by decide +kernel
theorem dX10_when_32 : decode cX10_when 32 = .ok (.getfield 71, 3) := by decide +kernel
theorem dX10_when_35 : decode cX10_when 35 = .ok (.aload_n 0, 1) := by decide +kernel
theorem dX10_when_36 : decode cX10_when 36 = .ok (.getfield 19, 3) := by decide +kernel
theorem dX10_when_39 : decode cX10_when 39 = .ok (.sipush 192, 3) := by decide +kernel
theorem dX10_when_42 : decode cX10_when 42 = .ok (.invokevirtual 229, 3) := by decide +kernel
theorem dX10_when_45 : decode cX10_when 45 = .ok (.aload_n 0, 1) := by decide +kernel
theorem dX10_when_46 : decode cX10_when 46 = .ok (.getfield 43, 3) := by decide +kernel
theorem dX10_when_49 : decode cX10_when 49 = .ok (.iload_n 1, 1) := by decide +kernel
theorem dX10_when_50 : decode cX10_when 50 = .ok (.sipush 192, 3) := by decide +kernel
theorem dX10_when_53 : decode cX10_when 53 = .ok (.invokevirtual 236, 3) := by decide +kernel
theorem dX10_when_56 : decode cX10_when 56 = .ok (.ireturn, 1) := by decide +kernel
theorem dX10_when_25 : decode cX10_when 25 = .ok (.iload_n 2, 1) := by decide +kernel
theorem dX10_when_26 : decode cX10_when 26 = .ok (.ireturn, 1) := by decide +kernel
theorem dX10_when_22 : decode cX10_when 22 = .ok (.ifCond .eq 5, 3) := by decide +kernel
theorem bX10_when (x : bo_X) (hx : bo_OK x cX10_when RX10 3 5 119) (σ : bo_M) (p1 : Int32) : bo_D x 0 [(0, .ref (bo_a x 0)), (1, .int p1)] [] σ (mX10_when σ p1) (bo_Rw x cX10_when false) := by
  unfold mX10_when
  refine bo_aload_n hx dX10_when_0 rfl 0 rfl ?_
  refine bo_iload_n hx dX10_when_1 rfl 1 rfl ?_
  refine bo_iconst (v := 1) hx dX10_when_2 (by decide) ?_
  refine bo_seq 17 (fun a => [(0, .ref (bo_a x 0)), (1, .int p1)]) (fun a => [.int a, .ref (bo_a x 0)]) (fun a => σ) ?_ (fun a1 => ?_)
  · refine bo_icmp_lt hx 12 dX10_when_3 (by decide) ?_ ?_
    · refine bo_iconst (v := 1) hx dX10_when_12 (by decide) ?_
      refine bo_goto hx 17 dX10_when_13 (by decide) ?_
      exact bo_arr (fun h => h)
    · refine bo_iload_n hx dX10_when_6 rfl 1 rfl ?_
      refine bo_bipush (v := 16) hx dX10_when_7 (by decide) ?_
      refine bo_icmp_le hx 16 dX10_when_9 (by decide) ?_ ?_
      · refine bo_iconst (v := 0) hx dX10_when_16 (by decide) ?_
        exact bo_arr (fun h => h)
      · refine bo_iconst (v := 1) hx dX10_when_12 (by decide) ?_
        refine bo_goto hx 17 dX10_when_13 (by decide) ?_
        exact bo_arr (fun h => h)
  · refine bo_goR (z := false) hx (fun rr hh => bo_runV (As := [.int a1]) (S := []) hx dX10_when_17 lk_X10_218 mi_X10_refused bo_o_0 rfl rfl (kX10_refused (bo_l x) (bo_g x) hx.inj σ a1 rr hh) ⟨by decide, by decide⟩ rfl rfl (Nat.le_of_ble_eq_true rfl)) (fun v2 hv2 => ?_)
    refine bo_istore_n (L' := [(2, .int v2), (0, .ref (bo_a x 0)), (1, .int p1)]) hx dX10_when_20 rfl (by decide) rfl ?_
    refine bo_iload_n hx dX10_when_21 rfl 0 rfl ?_
    refine bo_if_eq hx 27 dX10_when_22 (by decide) ?_ ?_
    · refine bo_aload_n hx dX10_when_27 rfl 1 rfl ?_
      refine gf_X10_43 hx dX10_when_28 ?_
      refine bo_aload_n hx dX10_when_31 rfl 1 rfl ?_
      refine gf_X10_71 hx dX10_when_32 ?_
      refine bo_aload_n hx dX10_when_35 rfl 1 rfl ?_
      refine gf_X10_19 hx dX10_when_36 ?_
      refine bo_sipush (v := 192) hx dX10_when_39 (by decide) ?_
      refine bo_goV hx (fun rr hh => bo_runV (As := [.ref (bo_a x (bo_inn (σ 0 9))), .ref (bo_a x 50), .int 192]) (S := []) hx dX10_when_42 lk_X10_229 mi_X9_run bo_o_17 rfl rfl (kX9_run (bo_l x) (bo_g x) hx.inj σ (bo_inn (σ 0 9)) 50 192 (bo_inn_ok (σ 0 9)) bo_ev50 rr hh) ⟨by decide, by decide⟩ rfl rfl (Nat.le_of_ble_eq_true rfl)) (fun σ3 => ?_)
      refine bo_aload_n hx dX10_when_45 rfl 1 rfl ?_
      refine gf_X10_43 hx dX10_when_46 ?_
      refine bo_iload_n hx dX10_when_49 rfl 2 rfl ?_
      refine bo_sipush (v := 192) hx dX10_when_50 (by decide) ?_
      refine bo_goR (z := false) hx (fun rr hh => bo_runV (As := [.int p1, .int 192]) (S := []) hx dX10_when_53 lk_X10_236 mi_X9_firstHeard bo_o_17 rfl rfl (kX9_firstHeard (bo_l x) (bo_g x) hx.inj σ3 p1 192 rr hh) ⟨by decide, by decide⟩ rfl rfl (Nat.le_of_ble_eq_true rfl)) (fun v4 hv4 => ?_)
      exact bo_retw dX10_when_56 (fun h => by cases h)
    · refine bo_iload_n hx dX10_when_25 rfl 0 rfl ?_
      exact bo_retw dX10_when_26 (fun h => by cases h)
theorem kX10_when (l : Launch) (g : bo_G) (hi : bo_inj g) (σ : bo_M) (p1 : Int32) : bo_CW l g yX10_when cX10_when 3 (some .int) 5 119 [.ref (g.2.2 0), .int p1] σ false (mX10_when σ p1) :=
  bo_metW rfl (Or.inl ⟨rfl, rfl⟩) (by decide) rfl hi (Nat.le_of_ble_eq_true rfl) (fun x e1 e2 hx => by subst e1; subst e2; exact bX10_when x hx σ p1)
-- BellRope.hour
theorem dX10_hour_0 : decode cX10_hour 0 = .ok (.aload_n 0, 1) := by decide +kernel
theorem dX10_hour_1 : decode cX10_hour 1 = .ok (.iload_n 1, 1) := by decide +kernel
theorem dX10_hour_12 : decode cX10_hour 12 = .ok (.iconst 1, 1) := by decide +kernel
theorem dX10_hour_13 : decode cX10_hour 13 = .ok (.goto 4, 3) := by decide +kernel
theorem dX10_hour_5 : decode cX10_hour 5 = .ok (.iload_n 1, 1) := by decide +kernel
theorem dX10_hour_6 : decode cX10_hour 6 = .ok (.sipush 192, 3) := by decide +kernel
theorem dX10_hour_16 : decode cX10_hour 16 = .ok (.iconst 0, 1) := by decide +kernel
theorem dX10_hour_9 : decode cX10_hour 9 = .ok (.if_icmp .le 7, 3) := by decide +kernel
theorem dX10_hour_2 : decode cX10_hour 2 = .ok (.ifCond .lt 10, 3) := by decide +kernel
theorem dX10_hour_17 : decode cX10_hour 17 = .ok (.invokevirtual 218, 3) := by decide +kernel
theorem dX10_hour_20 : decode cX10_hour 20 = .ok (.istore_n 2, 1) := by decide +kernel
theorem dX10_hour_21 : decode cX10_hour 21 = .ok (.iload_n 2, 1) := by decide +kernel
theorem dX10_hour_27 : decode cX10_hour 27 = .ok (.aload_n 0, 1) := by decide +kernel
theorem dX10_hour_28 : decode cX10_hour 28 = .ok (.getfield 43, 3) := by decide +kernel
theorem dX10_hour_31 : decode cX10_hour 31 = .ok (.aload_n 0, 1) := by decide +kernel
theorem dX10_hour_32 : decode cX10_hour 32 = .ok (.getfield 71, 3) := by decide +kernel
theorem dX10_hour_35 : decode cX10_hour 35 = .ok (.aload_n 0, 1) := by decide +kernel
theorem dX10_hour_36 : decode cX10_hour 36 = .ok (.getfield 19, 3) := by decide +kernel
theorem dX10_hour_39 : decode cX10_hour 39 = .ok (.iload_n 1, 1) := by decide +kernel
theorem dX10_hour_40 : decode cX10_hour 40 = .ok (.invokevirtual 229, 3) := by decide +kernel
theorem dX10_hour_43 : decode cX10_hour 43 = .ok (.aload_n 0, 1) := by decide +kernel
theorem dX10_hour_44 : decode cX10_hour 44 = .ok (.getfield 43, 3) := by decide +kernel
theorem dX10_hour_47 : decode cX10_hour 47 = .ok (.getfield 239, 3) := by decide +kernel
theorem dX10_hour_50 : decode cX10_hour 50 = .ok (.getfield 126, 3) := by decide +kernel
theorem dX10_hour_53 : decode cX10_hour 53 = .ok (.ireturn, 1) := by decide +kernel
theorem dX10_hour_25 : decode cX10_hour 25 = .ok (.iload_n 2, 1) := by decide +kernel
theorem dX10_hour_26 : decode cX10_hour 26 = .ok (.ireturn, 1) := by decide +kernel
theorem dX10_hour_22 : decode cX10_hour 22 = .ok (.ifCond .eq 5, 3) := by decide +kernel
theorem bX10_hour (x : bo_X) (hx : bo_OK x cX10_hour RX10 3 5 119) (σ : bo_M) (p1 : Int32) : bo_D x 0 [(0, .ref (bo_a x 0)), (1, .int p1)] [] σ (mX10_hour σ p1) (bo_Rw x cX10_hour false) := by
  unfold mX10_hour
  refine bo_aload_n hx dX10_hour_0 rfl 0 rfl ?_
  refine bo_iload_n hx dX10_hour_1 rfl 1 rfl ?_
  refine bo_seq 17 (fun a => [(0, .ref (bo_a x 0)), (1, .int p1)]) (fun a => [.int a, .ref (bo_a x 0)]) (fun a => σ) ?_ (fun a1 => ?_)
  · refine bo_if_lt hx 12 dX10_hour_2 (by decide) ?_ ?_
    · refine bo_iconst (v := 1) hx dX10_hour_12 (by decide) ?_
      refine bo_goto hx 17 dX10_hour_13 (by decide) ?_
      exact bo_arr (fun h => h)
    · refine bo_iload_n hx dX10_hour_5 rfl 1 rfl ?_
      refine bo_sipush (v := 192) hx dX10_hour_6 (by decide) ?_
      refine bo_icmp_le hx 16 dX10_hour_9 (by decide) ?_ ?_
      · refine bo_iconst (v := 0) hx dX10_hour_16 (by decide) ?_
        exact bo_arr (fun h => h)
      · refine bo_iconst (v := 1) hx dX10_hour_12 (by decide) ?_
        refine bo_goto hx 17 dX10_hour_13 (by decide) ?_
        exact bo_arr (fun h => h)
  · refine bo_goR (z := false) hx (fun rr hh => bo_runV (As := [.int a1]) (S := []) hx dX10_hour_17 lk_X10_218 mi_X10_refused bo_o_0 rfl rfl (kX10_refused (bo_l x) (bo_g x) hx.inj σ a1 rr hh) ⟨by decide, by decide⟩ rfl rfl (Nat.le_of_ble_eq_true rfl)) (fun v2 hv2 => ?_)
    refine bo_istore_n (L' := [(2, .int v2), (0, .ref (bo_a x 0)), (1, .int p1)]) hx dX10_hour_20 rfl (by decide) rfl ?_
    refine bo_iload_n hx dX10_hour_21 rfl 0 rfl ?_
    refine bo_if_eq hx 27 dX10_hour_22 (by decide) ?_ ?_
    · refine bo_aload_n hx dX10_hour_27 rfl 1 rfl ?_
      refine gf_X10_43 hx dX10_hour_28 ?_
      refine bo_aload_n hx dX10_hour_31 rfl 1 rfl ?_
      refine gf_X10_71 hx dX10_hour_32 ?_
      refine bo_aload_n hx dX10_hour_35 rfl 1 rfl ?_
      refine gf_X10_19 hx dX10_hour_36 ?_
      refine bo_iload_n hx dX10_hour_39 rfl 2 rfl ?_
      refine bo_goV hx (fun rr hh => bo_runV (As := [.ref (bo_a x (bo_inn (σ 0 9))), .ref (bo_a x 50), .int p1]) (S := []) hx dX10_hour_40 lk_X10_229 mi_X9_run bo_o_17 rfl rfl (kX9_run (bo_l x) (bo_g x) hx.inj σ (bo_inn (σ 0 9)) 50 p1 (bo_inn_ok (σ 0 9)) bo_ev50 rr hh) ⟨by decide, by decide⟩ rfl rfl (Nat.le_of_ble_eq_true rfl)) (fun σ3 => ?_)
      refine bo_aload_n hx dX10_hour_43 rfl 1 rfl ?_
      refine gf_X10_43 hx dX10_hour_44 ?_
      refine gf_X10_239 hx dX10_hour_47 ?_
      refine gf_X10_126 hx bo_ev18 dX10_hour_50 ?_
      exact bo_retw dX10_hour_53 (fun h => by cases h)
    · refine bo_iload_n hx dX10_hour_25 rfl 0 rfl ?_
      exact bo_retw dX10_hour_26 (fun h => by cases h)
theorem kX10_hour (l : Launch) (g : bo_G) (hi : bo_inj g) (σ : bo_M) (p1 : Int32) : bo_CW l g yX10_hour cX10_hour 3 (some .int) 5 119 [.ref (g.2.2 0), .int p1] σ false (mX10_hour σ p1) :=
  bo_metW rfl (Or.inl ⟨rfl, rfl⟩) (by decide) rfl hi (Nat.le_of_ble_eq_true rfl) (fun x e1 e2 hx => by subst e1; subst e2; exact bX10_hour x hx σ p1)
-- BellRope.noon
theorem dX10_noon_0 : decode cX10_noon 0 = .ok (.aload_n 0, 1) := by decide +kernel
theorem dX10_noon_1 : decode cX10_noon 1 = .ok (.getfield 71, 3) := by decide +kernel
theorem dX10_noon_4 : decode cX10_noon 4 = .ok (.getfield 242, 3) := by decide +kernel
theorem dX10_noon_13 : decode cX10_noon 13 = .ok (.aload_n 0, 1) := by decide +kernel
theorem dX10_noon_14 : decode cX10_noon 14 = .ok (.getfield 43, 3) := by decide +kernel
theorem dX10_noon_17 : decode cX10_noon 17 = .ok (.aload_n 0, 1) := by decide +kernel
theorem dX10_noon_18 : decode cX10_noon 18 = .ok (.getfield 71, 3) := by decide +kernel
theorem dX10_noon_21 : decode cX10_noon 21 = .ok (.aload_n 0, 1) := by decide +kernel
theorem dX10_noon_22 : decode cX10_noon 22 = .ok (.getfield 19, 3) := by decide +kernel
theorem dX10_noon_25 : decode cX10_noon 25 = .ok (.sipush 192, 3) := by decide +kernel
theorem dX10_noon_28 : decode cX10_noon 28 = .ok (.invokevirtual 229, 3) := by decide +kernel
theorem dX10_noon_31 : decode cX10_noon 31 = .ok (.aload_n 0, 1) := by decide +kernel
theorem dX10_noon_32 : decode cX10_noon 32 = .ok (.getfield 19, 3) := by decide +kernel
theorem dX10_noon_35 : decode cX10_noon 35 = .ok (.getfield 126, 3) := by decide +kernel
theorem dX10_noon_38 : decode cX10_noon 38 = .ok (.istore_n 1, 1) := by decide +kernel
theorem dX10_noon_39 : decode cX10_noon 39 = .ok (.iconst 0, 1) := by decide +kernel
theorem dX10_noon_40 : decode cX10_noon 40 = .ok (.istore_n 2, 1) := by decide +kernel
theorem dX10_noon_41 : decode cX10_noon 41 = .ok (.iload_n 2, 1) := by decide +kernel
theorem dX10_noon_42 : decode cX10_noon 42 = .ok (.sipush 192, 3) := by decide +kernel
theorem dX10_noon_82 : decode cX10_noon 82 = .ok (.iconst (-1), 1) := by decide +kernel
theorem dX10_noon_83 : decode cX10_noon 83 = .ok (.ireturn, 1) := by decide +kernel
theorem dX10_noon_48 : decode cX10_noon 48 = .ok (.aload_n 0, 1) := by decide +kernel
theorem dX10_noon_49 : decode cX10_noon 49 = .ok (.getfield 43, 3) := by decide +kernel
theorem dX10_noon_52 : decode cX10_noon 52 = .ok (.getfield 233, 3) := by decide +kernel
theorem dX10_noon_55 : decode cX10_noon 55 = .ok (.iload_n 2, 1) := by decide +kernel
theorem dX10_noon_56 : decode cX10_noon 56 = .ok (.invokestatic 154, 3) := by decide +kernel
theorem dX10_noon_59 : decode cX10_noon 59 = .ok (.iconst 1, 1) := by decide +kernel
theorem dX10_noon_63 : decode cX10_noon 63 = .ok (.iinc 1 1, 3) := by decide +kernel
theorem dX10_noon_60 : decode cX10_noon 60 = .ok (.if_icmp .lt 6, 3) := by decide +kernel
theorem dX10_noon_66 : decode cX10_noon 66 = .ok (.iload_n 1, 1) := by decide +kernel
theorem dX10_noon_67 : decode cX10_noon 67 = .ok (.bipush 12, 2) := by decide +kernel
theorem dX10_noon_76 : decode cX10_noon 76 = .ok (.iinc 2 1, 3) := by decide +kernel
theorem dX10_noon_79 : decode cX10_noon 79 = .ok (.goto (-38), 3) := by decide +kernel
theorem dX10_noon_72 : decode cX10_noon 72 = .ok (.iload_n 2, 1) := by decide +kernel
theorem dX10_noon_73 : decode cX10_noon 73 = .ok (.iconst 1, 1) := by decide +kernel
theorem dX10_noon_74 : decode cX10_noon 74 = .ok (.iadd, 1) := by decide +kernel
theorem dX10_noon_75 : decode cX10_noon 75 = .ok (.ireturn, 1) := by decide +kernel
theorem dX10_noon_69 : decode cX10_noon 69 = .ok (.if_icmp .ne 7, 3) := by decide +kernel
theorem dX10_noon_45 : decode cX10_noon 45 = .ok (.if_icmp .ge 37, 3) := by decide +kernel
theorem dX10_noon_10 : decode cX10_noon 10 = .ok (.ldc 208, 2) := by decide +kernel
theorem dX10_noon_12 : decode cX10_noon 12 = .ok (.ireturn, 1) := by decide +kernel
theorem dX10_noon_7 : decode cX10_noon 7 = .ok (.ifCond .ne 6, 3) := by decide +kernel
theorem lX10_noon_L41 (x : bo_X) (hx : bo_OK x cX10_noon RX10 3 5 119) (σ : bo_M) : ∀ (n : Nat) (w1 : Int32) (w2 : Int32), bo_D x 41 [(0, .ref (bo_a x 0)), (1, .int w1), (2, .int w2)] [] σ (mX10_noon_L41 σ n w1 w2) (bo_Rw x cX10_noon false) := by
  intro n
  induction n with
  | zero => intro w1 w2; exact bo_none
  | succ n ih =>
    intro w1 w2
    rw [mX10_noon_L41]
    refine bo_iload_n hx dX10_noon_41 rfl 2 rfl ?_
    refine bo_sipush (v := 192) hx dX10_noon_42 (by decide) ?_
    refine bo_icmp_ge hx 82 dX10_noon_45 (by decide) ?_ ?_
    · refine bo_iconst (v := (-1)) hx dX10_noon_82 (by decide) ?_
      exact bo_retw dX10_noon_83 (fun h => by cases h)
    · refine bo_aload_n hx dX10_noon_48 rfl 0 rfl ?_
      refine gf_X10_43 hx dX10_noon_49 ?_
      refine gf_X10_233 hx dX10_noon_52 ?_
      refine bo_iload_n hx dX10_noon_55 rfl 2 rfl ?_
      refine bo_goR (z := false) hx (fun rr hh => bo_runS (As := [.ref (bo_a x 23), .int w2]) (S := []) hx dX10_noon_56 lk_X10_154 ms_X8_at (kX8_at (bo_l x) (bo_g x) hx.inj σ 192 23 w2 bo_c_23 rr hh) ⟨by decide, by decide⟩ rfl rfl (Nat.le_of_ble_eq_true rfl)) (fun v2 hv2 => ?_)
      refine bo_iconst (v := 1) hx dX10_noon_59 (by decide) ?_
      refine bo_seq 66 (fun a => [(0, .ref (bo_a x 0)), (1, .int a), (2, .int w2)]) (fun a => []) (fun a => σ) ?_ (fun a3 => ?_)
      · refine bo_icmp_lt hx 66 dX10_noon_60 (by decide) ?_ ?_
        · exact bo_arr (fun h => h)
        · refine bo_iinc (L' := [(1, .int (w1 + 1)), (0, .ref (bo_a x 0)), (2, .int w2)]) (w := (w1 + 1)) hx dX10_noon_63 1 rfl rfl (by decide) rfl ?_
          refine bo_sub (L' := [(0, .ref (bo_a x 0)), (1, .int (w1 + 1)), (2, .int w2)]) [1, 0, 2] rfl ?_
          exact bo_arr (fun h => h)
      · refine bo_iload_n hx dX10_noon_66 rfl 1 rfl ?_
        refine bo_bipush (v := 12) hx dX10_noon_67 (by decide) ?_
        refine bo_icmp_ne hx 76 dX10_noon_69 (by decide) ?_ ?_
        · refine bo_iinc (L' := [(2, .int (w2 + 1)), (0, .ref (bo_a x 0)), (1, .int a3)]) (w := (w2 + 1)) hx dX10_noon_76 2 rfl rfl (by decide) rfl ?_
          refine bo_goto hx 41 dX10_noon_79 (by decide) ?_
          refine bo_sub (L' := [(0, .ref (bo_a x 0)), (1, .int a3), (2, .int (w2 + 1))]) [1, 2, 0] rfl ?_
          exact ih a3 (w2 + 1)
        · refine bo_iload_n hx dX10_noon_72 rfl 2 rfl ?_
          refine bo_iconst (v := 1) hx dX10_noon_73 (by decide) ?_
          refine bo_iadd hx dX10_noon_74 ?_
          exact bo_retw dX10_noon_75 (fun h => by cases h)
theorem bX10_noon (x : bo_X) (hx : bo_OK x cX10_noon RX10 3 5 119) (σ : bo_M) : bo_D x 0 [(0, .ref (bo_a x 0))] [] σ (mX10_noon σ) (bo_Rw x cX10_noon false) := by
  unfold mX10_noon
  refine bo_aload_n hx dX10_noon_0 rfl 0 rfl ?_
  refine gf_X10_71 hx dX10_noon_1 ?_
  refine gf_X10_242 hx (bo_inn_ok (σ 0 9)) dX10_noon_4 ?_
  refine bo_if_ne hx 13 dX10_noon_7 (by decide) ?_ ?_
  · refine bo_aload_n hx dX10_noon_13 rfl 0 rfl ?_
    refine gf_X10_43 hx dX10_noon_14 ?_
    refine bo_aload_n hx dX10_noon_17 rfl 0 rfl ?_
    refine gf_X10_71 hx dX10_noon_18 ?_
    refine bo_aload_n hx dX10_noon_21 rfl 0 rfl ?_
    refine gf_X10_19 hx dX10_noon_22 ?_
    refine bo_sipush (v := 192) hx dX10_noon_25 (by decide) ?_
    refine bo_goV hx (fun rr hh => bo_runV (As := [.ref (bo_a x (bo_inn (σ 0 9))), .ref (bo_a x 50), .int 192]) (S := []) hx dX10_noon_28 lk_X10_229 mi_X9_run bo_o_17 rfl rfl (kX9_run (bo_l x) (bo_g x) hx.inj σ (bo_inn (σ 0 9)) 50 192 (bo_inn_ok (σ 0 9)) bo_ev50 rr hh) ⟨by decide, by decide⟩ rfl rfl (Nat.le_of_ble_eq_true rfl)) (fun σ1 => ?_)
    refine bo_aload_n hx dX10_noon_31 rfl 0 rfl ?_
    refine gf_X10_19 hx dX10_noon_32 ?_
    refine gf_X10_126 hx bo_ev50 dX10_noon_35 ?_
    refine bo_istore_n (L' := [(1, .int (σ1 50 6)), (0, .ref (bo_a x 0))]) hx dX10_noon_38 rfl (by decide) rfl ?_
    refine bo_iconst (v := 0) hx dX10_noon_39 (by decide) ?_
    refine bo_istore_n (L' := [(2, .int 0), (1, .int (σ1 50 6)), (0, .ref (bo_a x 0))]) hx dX10_noon_40 rfl (by decide) rfl ?_
    refine bo_sub (L' := [(0, .ref (bo_a x 0)), (1, .int (σ1 50 6)), (2, .int 0)]) [2, 1, 0] rfl ?_
    exact lX10_noon_L41 x hx σ1 bo_fuel (σ1 50 6) 0
  · refine bo_ldc (v := (-1000000003)) hx dX10_noon_10 wc_X10_208 ?_
    exact bo_retw dX10_noon_12 (fun h => by cases h)
theorem kX10_noon (l : Launch) (g : bo_G) (hi : bo_inj g) (σ : bo_M) : bo_CW l g yX10_noon cX10_noon 3 (some .int) 5 119 [.ref (g.2.2 0)] σ false (mX10_noon σ) :=
  bo_metW rfl (Or.inl ⟨rfl, rfl⟩) (by decide) rfl hi (Nat.le_of_ble_eq_true rfl) (fun x e1 e2 hx => by subst e1; subst e2; exact bX10_noon x hx σ)
-- BellRope.lateBy
theorem dX10_lateBy_0 : decode cX10_lateBy 0 = .ok (.aload_n 0, 1) := by decide +kernel
theorem dX10_lateBy_1 : decode cX10_lateBy 1 = .ok (.getfield 43, 3) := by decide +kernel
theorem dX10_lateBy_4 : decode cX10_lateBy 4 = .ok (.iload_n 1, 1) := by decide +kernel
theorem dX10_lateBy_5 : decode cX10_lateBy 5 = .ok (.bipush 96, 2) := by decide +kernel
theorem dX10_lateBy_7 : decode cX10_lateBy 7 = .ok (.invokevirtual 236, 3) := by decide +kernel
theorem dX10_lateBy_10 : decode cX10_lateBy 10 = .ok (.istore_n 2, 1) := by decide +kernel
theorem dX10_lateBy_11 : decode cX10_lateBy 11 = .ok (.iconst 0, 1) := by decide +kernel
theorem dX10_lateBy_12 : decode cX10_lateBy 12 = .ok (.istore_n 3, 1) := by decide +kernel
theorem dX10_lateBy_13 : decode cX10_lateBy 13 = .ok (.iconst 0, 1) := by decide +kernel
theorem dX10_lateBy_14 : decode cX10_lateBy 14 = .ok (.istore 4, 2) := by decide +kernel
theorem dX10_lateBy_16 : decode cX10_lateBy 16 = .ok (.iload 4, 2) := by decide +kernel
theorem dX10_lateBy_18 : decode cX10_lateBy 18 = .ok (.aload_n 0, 1) := by decide +kernel
theorem dX10_lateBy_19 : decode cX10_lateBy 19 = .ok (.getfield 71, 3) := by decide +kernel
theorem dX10_lateBy_22 : decode cX10_lateBy 22 = .ok (.getfield 114, 3) := by decide +kernel
theorem dX10_lateBy_28 : decode cX10_lateBy 28 = .ok (.aload_n 0, 1) := by decide +kernel
theorem dX10_lateBy_29 : decode cX10_lateBy 29 = .ok (.getfield 71, 3) := by decide +kernel
theorem dX10_lateBy_32 : decode cX10_lateBy 32 = .ok (.getfield 182, 3) := by decide +kernel
theorem dX10_lateBy_35 : decode cX10_lateBy 35 = .ok (.iload 4, 2) := by decide +kernel
theorem dX10_lateBy_37 : decode cX10_lateBy 37 = .ok (.invokestatic 154, 3) := by decide +kernel
theorem dX10_lateBy_40 : decode cX10_lateBy 40 = .ok (.bipush 96, 2) := by decide +kernel
theorem dX10_lateBy_42 : decode cX10_lateBy 42 = .ok (.iadd, 1) := by decide +kernel
theorem dX10_lateBy_43 : decode cX10_lateBy 43 = .ok (.aload_n 0, 1) := by decide +kernel
theorem dX10_lateBy_44 : decode cX10_lateBy 44 = .ok (.getfield 19, 3) := by decide +kernel
theorem dX10_lateBy_47 : decode cX10_lateBy 47 = .ok (.getfield 120, 3) := by decide +kernel
theorem dX10_lateBy_50 : decode cX10_lateBy 50 = .ok (.bipush 96, 2) := by decide +kernel
theorem dX10_lateBy_52 : decode cX10_lateBy 52 = .ok (.irem, 1) := by decide +kernel
theorem dX10_lateBy_53 : decode cX10_lateBy 53 = .ok (.isub, 1) := by decide +kernel
theorem dX10_lateBy_54 : decode cX10_lateBy 54 = .ok (.bipush 96, 2) := by decide +kernel
theorem dX10_lateBy_56 : decode cX10_lateBy 56 = .ok (.irem, 1) := by decide +kernel
theorem dX10_lateBy_57 : decode cX10_lateBy 57 = .ok (.istore 5, 2) := by decide +kernel
theorem dX10_lateBy_59 : decode cX10_lateBy 59 = .ok (.iload_n 2, 1) := by decide +kernel
theorem dX10_lateBy_60 : decode cX10_lateBy 60 = .ok (.iconst (-1), 1) := by decide +kernel
theorem dX10_lateBy_83 : decode cX10_lateBy 83 = .ok (.iload_n 3, 1) := by decide +kernel
theorem dX10_lateBy_84 : decode cX10_lateBy 84 = .ok (.iconst 1, 1) := by decide +kernel
theorem dX10_lateBy_85 : decode cX10_lateBy 85 = .ok (.iload 4, 2) := by decide +kernel
theorem dX10_lateBy_87 : decode cX10_lateBy 87 = .ok (.ishl, 1) := by decide +kernel
theorem dX10_lateBy_88 : decode cX10_lateBy 88 = .ok (.ior, 1) := by decide +kernel
theorem dX10_lateBy_89 : decode cX10_lateBy 89 = .ok (.istore_n 3, 1) := by decide +kernel
theorem dX10_lateBy_64 : decode cX10_lateBy 64 = .ok (.iload_n 2, 1) := by decide +kernel
theorem dX10_lateBy_65 : decode cX10_lateBy 65 = .ok (.aload_n 0, 1) := by decide +kernel
theorem dX10_lateBy_66 : decode cX10_lateBy 66 = .ok (.getfield 71, 3) := by decide +kernel
theorem dX10_lateBy_69 : decode cX10_lateBy 69 = .ok (.getfield 185, 3) := by decide +kernel
theorem dX10_lateBy_72 : decode cX10_lateBy 72 = .ok (.iload 4, 2) := by decide +kernel
theorem dX10_lateBy_74 : decode cX10_lateBy 74 = .ok (.invokestatic 154, 3) := by decide +kernel
theorem dX10_lateBy_77 : decode cX10_lateBy 77 = .ok (.iadd, 1) := by decide +kernel
theorem dX10_lateBy_78 : decode cX10_lateBy 78 = .ok (.iload 5, 2) := by decide +kernel
theorem dX10_lateBy_80 : decode cX10_lateBy 80 = .ok (.if_icmp .le 10, 3) := by decide +kernel
theorem dX10_lateBy_61 : decode cX10_lateBy 61 = .ok (.if_icmp .eq 22, 3) := by decide +kernel
theorem dX10_lateBy_90 : decode cX10_lateBy 90 = .ok (.iinc 4 1, 3) := by decide +kernel
theorem dX10_lateBy_93 : decode cX10_lateBy 93 = .ok (.goto (-77), 3) := by decide +kernel
theorem dX10_lateBy_25 : decode cX10_lateBy 25 = .ok (.if_icmp .ge 71, 3) := by decide +kernel
theorem dX10_lateBy_96 : decode cX10_lateBy 96 = .ok (.iload_n 3, 1) := by decide +kernel
theorem dX10_lateBy_97 : decode cX10_lateBy 97 = .ok (.ireturn, 1) := by decide +kernel
theorem lX10_lateBy_L16 (x : bo_X) (hx : bo_OK x cX10_lateBy RX10 6 2 44) (σ : bo_M) (f2 : Int32) : ∀ (n : Nat) (w3 : Int32) (w4 : Int32), bo_D x 16 [(0, .ref (bo_a x 0)), (2, .int f2), (3, .int w3), (4, .int w4)] [] σ (mX10_lateBy_L16 σ f2 n w3 w4) (fun a => bo_N x 96 [(3, .int a)] [] σ) := by
  intro n
  induction n with
  | zero => intro w3 w4; exact bo_none
  | succ n ih =>
    intro w3 w4
    rw [mX10_lateBy_L16]
    refine bo_iload hx dX10_lateBy_16 3 rfl ?_
    refine bo_aload_n hx dX10_lateBy_18 rfl 0 rfl ?_
    refine gf_X10_71 hx dX10_lateBy_19 ?_
    refine gf_X10_114 hx (bo_inn_ok (σ 0 9)) dX10_lateBy_22 ?_
    refine bo_icmp_ge hx 96 dX10_lateBy_25 (by decide) ?_ ?_
    · refine bo_sub (L' := [(3, .int w3)]) [2] rfl ?_
      exact bo_arr (fun h => h)
    · refine bo_aload_n hx dX10_lateBy_28 rfl 0 rfl ?_
      refine gf_X10_71 hx dX10_lateBy_29 ?_
      refine gf_X10_182 hx (bo_inn_ok (σ 0 9)) dX10_lateBy_32 ?_
      refine bo_iload hx dX10_lateBy_35 3 rfl ?_
      refine bo_goR (z := false) hx (fun rr hh => bo_runS (As := [.ref (bo_a x ((bo_inn (σ 0 9)) + 4)), .int w4]) (S := []) hx dX10_lateBy_37 lk_X10_154 ms_X8_at (kX8_at (bo_l x) (bo_g x) hx.inj σ 6 ((bo_inn (σ 0 9)) + 4) w4 (bo_inn_ok (σ 0 9)).a4 rr hh) ⟨by decide, by decide⟩ rfl rfl (Nat.le_of_ble_eq_true rfl)) (fun v2 hv2 => ?_)
      refine bo_bipush (v := 96) hx dX10_lateBy_40 (by decide) ?_
      refine bo_iadd hx dX10_lateBy_42 ?_
      refine bo_aload_n hx dX10_lateBy_43 rfl 0 rfl ?_
      refine gf_X10_19 hx dX10_lateBy_44 ?_
      refine gf_X10_120 hx bo_ev50 dX10_lateBy_47 ?_
      refine bo_bipush (v := 96) hx dX10_lateBy_50 (by decide) ?_
      refine bo_iremc hx dX10_lateBy_52 (by decide) ?_
      refine bo_isub hx dX10_lateBy_53 ?_
      refine bo_bipush (v := 96) hx dX10_lateBy_54 (by decide) ?_
      refine bo_iremc hx dX10_lateBy_56 (by decide) ?_
      refine bo_istore (L' := [(5, .int (bo_irm ((v2 + 96) - (bo_irm (σ 50 4) 96)) 96)), (0, .ref (bo_a x 0)), (2, .int f2), (3, .int w3), (4, .int w4)]) hx dX10_lateBy_57 (by decide) rfl ?_
      refine bo_iload_n hx dX10_lateBy_59 rfl 2 rfl ?_
      refine bo_iconst (v := (-1)) hx dX10_lateBy_60 (by decide) ?_
      refine bo_seq 90 (fun a => [(0, .ref (bo_a x 0)), (2, .int f2), (3, .int a), (4, .int w4)]) (fun a => []) (fun a => σ) ?_ (fun a3 => ?_)
      · refine bo_icmp_eq hx 83 dX10_lateBy_61 (by decide) ?_ ?_
        · refine bo_iload_n hx dX10_lateBy_83 rfl 3 rfl ?_
          refine bo_iconst (v := 1) hx dX10_lateBy_84 (by decide) ?_
          refine bo_iload hx dX10_lateBy_85 4 rfl ?_
          refine bo_ishl hx dX10_lateBy_87 ?_
          refine bo_ior hx dX10_lateBy_88 ?_
          refine bo_istore_n (L' := [(3, .int (w3 ||| (1 <<< (w4 &&& 31)))), (5, .int (bo_irm ((v2 + 96) - (bo_irm (σ 50 4) 96)) 96)), (0, .ref (bo_a x 0)), (2, .int f2), (4, .int w4)]) hx dX10_lateBy_89 rfl (by decide) rfl ?_
          refine bo_sub (L' := [(0, .ref (bo_a x 0)), (2, .int f2), (3, .int (w3 ||| (1 <<< (w4 &&& 31)))), (4, .int w4)]) [2, 3, 0, 4] rfl ?_
          exact bo_arr (fun h => h)
        · refine bo_iload_n hx dX10_lateBy_64 rfl 2 rfl ?_
          refine bo_aload_n hx dX10_lateBy_65 rfl 1 rfl ?_
          refine gf_X10_71 hx dX10_lateBy_66 ?_
          refine gf_X10_185 hx (bo_inn_ok (σ 0 9)) dX10_lateBy_69 ?_
          refine bo_iload hx dX10_lateBy_72 4 rfl ?_
          refine bo_goR (z := false) hx (fun rr hh => bo_runS (As := [.ref (bo_a x ((bo_inn (σ 0 9)) + 5)), .int w4]) (S := [.int f2]) hx dX10_lateBy_74 lk_X10_154 ms_X8_at (kX8_at (bo_l x) (bo_g x) hx.inj σ 6 ((bo_inn (σ 0 9)) + 5) w4 (bo_inn_ok (σ 0 9)).a5 rr hh) ⟨by decide, by decide⟩ rfl rfl (Nat.le_of_ble_eq_true rfl)) (fun v4 hv4 => ?_)
          refine bo_iadd hx dX10_lateBy_77 ?_
          refine bo_iload hx dX10_lateBy_78 0 rfl ?_
          refine bo_icmp_le hx 90 dX10_lateBy_80 (by decide) ?_ ?_
          · refine bo_sub (L' := [(0, .ref (bo_a x 0)), (2, .int f2), (3, .int w3), (4, .int w4)]) [1, 2, 3, 4] rfl ?_
            exact bo_arr (fun h => h)
          · refine bo_iload_n hx dX10_lateBy_83 rfl 3 rfl ?_
            refine bo_iconst (v := 1) hx dX10_lateBy_84 (by decide) ?_
            refine bo_iload hx dX10_lateBy_85 4 rfl ?_
            refine bo_ishl hx dX10_lateBy_87 ?_
            refine bo_ior hx dX10_lateBy_88 ?_
            refine bo_istore_n (L' := [(3, .int (w3 ||| (1 <<< (w4 &&& 31)))), (5, .int (bo_irm ((v2 + 96) - (bo_irm (σ 50 4) 96)) 96)), (0, .ref (bo_a x 0)), (2, .int f2), (4, .int w4)]) hx dX10_lateBy_89 rfl (by decide) rfl ?_
            refine bo_sub (L' := [(0, .ref (bo_a x 0)), (2, .int f2), (3, .int (w3 ||| (1 <<< (w4 &&& 31)))), (4, .int w4)]) [2, 3, 0, 4] rfl ?_
            exact bo_arr (fun h => h)
      · refine bo_iinc (L' := [(4, .int (w4 + 1)), (0, .ref (bo_a x 0)), (2, .int f2), (3, .int a3)]) (w := (w4 + 1)) hx dX10_lateBy_90 3 rfl rfl (by decide) rfl ?_
        refine bo_goto hx 16 dX10_lateBy_93 (by decide) ?_
        refine bo_sub (L' := [(0, .ref (bo_a x 0)), (2, .int f2), (3, .int a3), (4, .int (w4 + 1))]) [1, 2, 3, 0] rfl ?_
        exact ih a3 (w4 + 1)
theorem bX10_lateBy (x : bo_X) (hx : bo_OK x cX10_lateBy RX10 6 2 44) (σ : bo_M) (p1 : Int32) : bo_D x 0 [(0, .ref (bo_a x 0)), (1, .int p1)] [] σ (mX10_lateBy σ p1) (bo_Ri x cX10_lateBy σ false) := by
  unfold mX10_lateBy
  refine bo_aload_n hx dX10_lateBy_0 rfl 0 rfl ?_
  refine gf_X10_43 hx dX10_lateBy_1 ?_
  refine bo_iload_n hx dX10_lateBy_4 rfl 1 rfl ?_
  refine bo_bipush (v := 96) hx dX10_lateBy_5 (by decide) ?_
  refine bo_goR (z := false) hx (fun rr hh => bo_runV (As := [.int p1, .int 96]) (S := []) hx dX10_lateBy_7 lk_X10_236 mi_X9_firstHeard bo_o_17 rfl rfl (kX9_firstHeard (bo_l x) (bo_g x) hx.inj σ p1 96 rr hh) ⟨by decide, by decide⟩ rfl rfl (Nat.le_of_ble_eq_true rfl)) (fun v1 hv1 => ?_)
  refine bo_istore_n (L' := [(2, .int v1), (0, .ref (bo_a x 0)), (1, .int p1)]) hx dX10_lateBy_10 rfl (by decide) rfl ?_
  refine bo_iconst (v := 0) hx dX10_lateBy_11 (by decide) ?_
  refine bo_istore_n (L' := [(3, .int 0), (2, .int v1), (0, .ref (bo_a x 0)), (1, .int p1)]) hx dX10_lateBy_12 rfl (by decide) rfl ?_
  refine bo_iconst (v := 0) hx dX10_lateBy_13 (by decide) ?_
  refine bo_istore (L' := [(4, .int 0), (3, .int 0), (2, .int v1), (0, .ref (bo_a x 0)), (1, .int p1)]) hx dX10_lateBy_14 (by decide) rfl ?_
  refine bo_sub (L' := [(0, .ref (bo_a x 0)), (2, .int v1), (3, .int 0), (4, .int 0)]) [3, 2, 1, 0] rfl ?_
  refine bo_seq 96 (fun a => [(3, .int a)]) (fun a => []) (fun a => σ) (lX10_lateBy_L16 x hx σ v1 bo_fuel 0 0) (fun a5 => ?_)
  refine bo_iload_n hx dX10_lateBy_96 rfl 0 rfl ?_
  exact bo_ret dX10_lateBy_97 (fun h => by cases h)
theorem kX10_lateBy (l : Launch) (g : bo_G) (hi : bo_inj g) (σ : bo_M) (p1 : Int32) : bo_CR l g yX10_lateBy cX10_lateBy 6 (some .int) 2 44 [.ref (g.2.2 0), .int p1] σ false (mX10_lateBy σ p1) :=
  bo_metR rfl (Or.inl ⟨rfl, rfl⟩) (by decide) rfl hi (Nat.le_of_ble_eq_true rfl) (fun x e1 e2 hx => by subst e1; subst e2; exact bX10_lateBy x hx σ p1)
-- BellRope.late
theorem dX10_late_0 : decode cX10_late 0 = .ok (.aload_n 0, 1) := by decide +kernel
theorem dX10_late_1 : decode cX10_late 1 = .ok (.iload_n 1, 1) := by decide +kernel
theorem dX10_late_2 : decode cX10_late 2 = .ok (.iconst 1, 1) := by decide +kernel
theorem dX10_late_12 : decode cX10_late 12 = .ok (.iconst 1, 1) := by decide +kernel
theorem dX10_late_13 : decode cX10_late 13 = .ok (.goto 4, 3) := by decide +kernel
theorem dX10_late_6 : decode cX10_late 6 = .ok (.iload_n 1, 1) := by decide +kernel
theorem dX10_late_7 : decode cX10_late 7 = .ok (.bipush 16, 2) := by decide +kernel
theorem dX10_late_16 : decode cX10_late 16 = .ok (.iconst 0, 1) := by decide +kernel
theorem dX10_late_9 : decode cX10_late 9 = .ok (.if_icmp .le 7, 3) := by decide +kernel
theorem dX10_late_3 : decode cX10_late 3 = .ok (.if_icmp .lt 9, 3) := by decide +kernel
theorem dX10_late_17 : decode cX10_late 17 = .ok (.invokevirtual 218, 3) := by decide +kernel
theorem dX10_late_20 : decode cX10_late 20 = .ok (.istore_n 2, 1) := by decide +kernel
theorem dX10_late_21 : decode cX10_late 21 = .ok (.iload_n 2, 1) := by decide +kernel
theorem dX10_late_27 : decode cX10_late 27 = .ok (.aload_n 0, 1) := by decide +kernel
theorem dX10_late_28 : decode cX10_late 28 = .ok (.getfield 43, 3) := by decide +kernel
theorem dX10_late_31 : decode cX10_late 31 = .ok (.aload_n 0, 1) := by decide +kernel
theorem dX10_late_32 : decode cX10_late 32 = .ok (.getfield 71, 3) := by decide +kernel
theorem dX10_late_35 : decode cX10_late 35 = .ok (.aload_n 0, 1) := by decide +kernel
theorem dX10_late_36 : decode cX10_late 36 = .ok (.getfield 19, 3) := by decide +kernel
theorem dX10_late_39 : decode cX10_late 39 = .ok (.bipush 96, 2) := by decide +kernel
theorem dX10_late_41 : decode cX10_late 41 = .ok (.invokevirtual 229, 3) := by decide +kernel
theorem dX10_late_44 : decode cX10_late 44 = .ok (.aload_n 0, 1) := by decide +kernel
theorem dX10_late_45 : decode cX10_late 45 = .ok (.iload_n 1, 1) := by decide +kernel
theorem dX10_late_46 : decode cX10_late 46 = .ok (.invokevirtual 245, 3) := by decide +kernel
theorem dX10_late_49 : decode cX10_late 49 = .ok (.ireturn, 1) := by decide +kernel
theorem dX10_late_25 : decode cX10_late 25 = .ok (.iload_n 2, 1) := by decide +kernel
theorem dX10_late_26 : decode cX10_late 26 = .ok (.ireturn, 1) := by decide +kernel
theorem dX10_late_22 : decode cX10_late 22 = .ok (.ifCond .eq 5, 3) := by decide +kernel
theorem bX10_late (x : bo_X) (hx : bo_OK x cX10_late RX10 3 5 119) (σ : bo_M) (p1 : Int32) : bo_D x 0 [(0, .ref (bo_a x 0)), (1, .int p1)] [] σ (mX10_late σ p1) (bo_Rw x cX10_late false) := by
  unfold mX10_late
  refine bo_aload_n hx dX10_late_0 rfl 0 rfl ?_
  refine bo_iload_n hx dX10_late_1 rfl 1 rfl ?_
  refine bo_iconst (v := 1) hx dX10_late_2 (by decide) ?_
  refine bo_seq 17 (fun a => [(0, .ref (bo_a x 0)), (1, .int p1)]) (fun a => [.int a, .ref (bo_a x 0)]) (fun a => σ) ?_ (fun a1 => ?_)
  · refine bo_icmp_lt hx 12 dX10_late_3 (by decide) ?_ ?_
    · refine bo_iconst (v := 1) hx dX10_late_12 (by decide) ?_
      refine bo_goto hx 17 dX10_late_13 (by decide) ?_
      exact bo_arr (fun h => h)
    · refine bo_iload_n hx dX10_late_6 rfl 1 rfl ?_
      refine bo_bipush (v := 16) hx dX10_late_7 (by decide) ?_
      refine bo_icmp_le hx 16 dX10_late_9 (by decide) ?_ ?_
      · refine bo_iconst (v := 0) hx dX10_late_16 (by decide) ?_
        exact bo_arr (fun h => h)
      · refine bo_iconst (v := 1) hx dX10_late_12 (by decide) ?_
        refine bo_goto hx 17 dX10_late_13 (by decide) ?_
        exact bo_arr (fun h => h)
  · refine bo_goR (z := false) hx (fun rr hh => bo_runV (As := [.int a1]) (S := []) hx dX10_late_17 lk_X10_218 mi_X10_refused bo_o_0 rfl rfl (kX10_refused (bo_l x) (bo_g x) hx.inj σ a1 rr hh) ⟨by decide, by decide⟩ rfl rfl (Nat.le_of_ble_eq_true rfl)) (fun v2 hv2 => ?_)
    refine bo_istore_n (L' := [(2, .int v2), (0, .ref (bo_a x 0)), (1, .int p1)]) hx dX10_late_20 rfl (by decide) rfl ?_
    refine bo_iload_n hx dX10_late_21 rfl 0 rfl ?_
    refine bo_if_eq hx 27 dX10_late_22 (by decide) ?_ ?_
    · refine bo_aload_n hx dX10_late_27 rfl 1 rfl ?_
      refine gf_X10_43 hx dX10_late_28 ?_
      refine bo_aload_n hx dX10_late_31 rfl 1 rfl ?_
      refine gf_X10_71 hx dX10_late_32 ?_
      refine bo_aload_n hx dX10_late_35 rfl 1 rfl ?_
      refine gf_X10_19 hx dX10_late_36 ?_
      refine bo_bipush (v := 96) hx dX10_late_39 (by decide) ?_
      refine bo_goV hx (fun rr hh => bo_runV (As := [.ref (bo_a x (bo_inn (σ 0 9))), .ref (bo_a x 50), .int 96]) (S := []) hx dX10_late_41 lk_X10_229 mi_X9_run bo_o_17 rfl rfl (kX9_run (bo_l x) (bo_g x) hx.inj σ (bo_inn (σ 0 9)) 50 96 (bo_inn_ok (σ 0 9)) bo_ev50 rr hh) ⟨by decide, by decide⟩ rfl rfl (Nat.le_of_ble_eq_true rfl)) (fun σ3 => ?_)
      refine bo_aload_n hx dX10_late_44 rfl 1 rfl ?_
      refine bo_iload_n hx dX10_late_45 rfl 2 rfl ?_
      refine bo_goR (z := false) hx (fun rr hh => bo_runV (As := [.int p1]) (S := []) hx dX10_late_46 lk_X10_245 mi_X10_lateBy bo_o_0 rfl rfl (kX10_lateBy (bo_l x) (bo_g x) hx.inj σ3 p1 rr hh) ⟨by decide, by decide⟩ rfl rfl (Nat.le_of_ble_eq_true rfl)) (fun v4 hv4 => ?_)
      exact bo_retw dX10_late_49 (fun h => by cases h)
    · refine bo_iload_n hx dX10_late_25 rfl 0 rfl ?_
      exact bo_retw dX10_late_26 (fun h => by cases h)
theorem kX10_late (l : Launch) (g : bo_G) (hi : bo_inj g) (σ : bo_M) (p1 : Int32) : bo_CW l g yX10_late cX10_late 3 (some .int) 5 119 [.ref (g.2.2 0), .int p1] σ false (mX10_late σ p1) :=
  bo_metW rfl (Or.inl ⟨rfl, rfl⟩) (by decide) rfl hi (Nat.le_of_ble_eq_true rfl) (fun x e1 e2 hx => by subst e1; subst e2; exact bX10_late x hx σ p1)
