-- BellRopeModel.could
theorem dX11_could_0 : decode cX11_could 0 = .ok (.iload_n 1, 1) := by decide +kernel
theorem dX11_could_1 : decode cX11_could 1 = .ok (.i2l, 1) := by decide +kernel
theorem dX11_could_2 : decode cX11_could 2 = .ok (.lconst 0, 1) := by decide +kernel
theorem dX11_could_3 : decode cX11_could 3 = .ok (.ldc2_w 359, 3) := by decide +kernel
theorem dX11_could_6 : decode cX11_could 6 = .ok (.invokestatic 118, 3) := by decide +kernel
theorem dX11_could_15 : decode cX11_could 15 = .ok (.aload_n 0, 1) := by decide +kernel
theorem dX11_could_16 : decode cX11_could 16 = .ok (.getfield 111, 3) := by decide +kernel
theorem dX11_could_26 : decode cX11_could 26 = .ok (.iconst 0, 1) := by decide +kernel
theorem dX11_could_27 : decode cX11_could 27 = .ok (.istore_n 2, 1) := by decide +kernel
theorem dX11_could_28 : decode cX11_could 28 = .ok (.iconst (-1), 1) := by decide +kernel
theorem dX11_could_29 : decode cX11_could 29 = .ok (.istore_n 3, 1) := by decide +kernel
theorem dX11_could_30 : decode cX11_could 30 = .ok (.iconst 1, 1) := by decide +kernel
theorem dX11_could_31 : decode cX11_could 31 = .ok (.aload_n 0, 1) := by decide +kernel
theorem dX11_could_32 : decode cX11_could 32 = .ok (.getfield 115, 3) := by decide +kernel
theorem dX11_could_35 : decode cX11_could 35 = .ok (.ishl, 1) := by decide +kernel
theorem dX11_could_36 : decode cX11_could 36 = .ok (.iconst 1, 1) := by decide +kernel
theorem dX11_could_37 : decode cX11_could 37 = .ok (.isub, 1) := by decide +kernel
theorem dX11_could_38 : decode cX11_could 38 = .ok (.istore 4, 2) := by decide +kernel
theorem dX11_could_40 : decode cX11_could 40 = .ok (.iload 4, 2) := by decide +kernel
theorem dX11_could_42 : decode cX11_could 42 = .ok (.istore 5, 2) := by decide +kernel
theorem dX11_could_44 : decode cX11_could 44 = .ok (.iload 4, 2) := by decide +kernel
theorem dX11_could_46 : decode cX11_could 46 = .ok (.istore 6, 2) := by decide +kernel
theorem dX11_could_48 : decode cX11_could 48 = .ok (.iconst 0, 1) := by decide +kernel
theorem dX11_could_49 : decode cX11_could 49 = .ok (.istore 7, 2) := by decide +kernel
theorem dX11_could_51 : decode cX11_could 51 = .ok (.iload 7, 2) := by decide +kernel
theorem dX11_could_53 : decode cX11_could 53 = .ok (.iload 4, 2) := by decide +kernel
theorem dX11_could_58 : decode cX11_could 58 = .ok (.aload_n 0, 1) := by decide +kernel
theorem dX11_could_59 : decode cX11_could 59 = .ok (.iload 7, 2) := by decide +kernel
theorem dX11_could_61 : decode cX11_could 61 = .ok (.aload_n 0, 1) := by decide +kernel
theorem dX11_could_62 : decode cX11_could 62 = .ok (.getfield 204, 3) := by decide +kernel
theorem dX11_could_65 : decode cX11_could 65 = .ok (.invokevirtual 361, 3) := by decide +kernel
theorem dX11_could_71 : decode cX11_could 71 = .ok (.iload_n 2, 1) := by decide +kernel
theorem dX11_could_80 : decode cX11_could 80 = .ok (.iload_n 3, 1) := by decide +kernel
theorem dX11_could_75 : decode cX11_could 75 = .ok (.iload 7, 2) := by decide +kernel
theorem dX11_could_77 : decode cX11_could 77 = .ok (.goto 4, 3) := by decide +kernel
theorem dX11_could_72 : decode cX11_could 72 = .ok (.ifCond .ne 8, 3) := by decide +kernel
theorem dX11_could_81 : decode cX11_could 81 = .ok (.istore_n 3, 1) := by decide +kernel
theorem dX11_could_82 : decode cX11_could 82 = .ok (.iload 5, 2) := by decide +kernel
theorem dX11_could_84 : decode cX11_could 84 = .ok (.iload 7, 2) := by decide +kernel
theorem dX11_could_86 : decode cX11_could 86 = .ok (.iand, 1) := by decide +kernel
theorem dX11_could_87 : decode cX11_could 87 = .ok (.istore 5, 2) := by decide +kernel
theorem dX11_could_89 : decode cX11_could 89 = .ok (.iload 6, 2) := by decide +kernel
theorem dX11_could_91 : decode cX11_could 91 = .ok (.iload 7, 2) := by decide +kernel
theorem dX11_could_93 : decode cX11_could 93 = .ok (.iconst (-1), 1) := by decide +kernel
theorem dX11_could_94 : decode cX11_could 94 = .ok (.ixor, 1) := by decide +kernel
theorem dX11_could_95 : decode cX11_could 95 = .ok (.iand, 1) := by decide +kernel
theorem dX11_could_96 : decode cX11_could 96 = .ok (.istore 6, 2) := by decide +kernel
theorem dX11_could_98 : decode cX11_could 98 = .ok (.iinc 2 1, 3) := by decide +kernel
theorem dX11_could_68 : decode cX11_could 68 = .ok (.ifCond .eq 33, 3) := by decide +kernel
theorem dX11_could_101 : decode cX11_could 101 = .ok (.iinc 7 1, 3) := by decide +kernel
theorem dX11_could_104 : decode cX11_could 104 = .ok (.goto (-53), 3) := by decide +kernel
theorem dX11_could_55 : decode cX11_could 55 = .ok (.if_icmp .gt 52, 3) := by decide +kernel
theorem dX11_could_107 : decode cX11_could 107 = .ok (.iload_n 1, 1) := by decide +kernel
theorem dX11_could_115 : decode cX11_could 115 = .ok (.iload_n 1, 1) := by decide +kernel
theorem dX11_could_116 : decode cX11_could 116 = .ok (.iconst 1, 1) := by decide +kernel
theorem dX11_could_124 : decode cX11_could 124 = .ok (.iload_n 2, 1) := by decide +kernel
theorem dX11_could_132 : decode cX11_could 132 = .ok (.iload_n 1, 1) := by decide +kernel
theorem dX11_could_133 : decode cX11_could 133 = .ok (.iconst 2, 1) := by decide +kernel
theorem dX11_could_142 : decode cX11_could 142 = .ok (.iload 6, 2) := by decide +kernel
theorem dX11_could_144 : decode cX11_could 144 = .ok (.ireturn, 1) := by decide +kernel
theorem dX11_could_137 : decode cX11_could 137 = .ok (.iload 5, 2) := by decide +kernel
theorem dX11_could_139 : decode cX11_could 139 = .ok (.goto 5, 3) := by decide +kernel
theorem dX11_could_134 : decode cX11_could 134 = .ok (.if_icmp .ne 8, 3) := by decide +kernel
theorem dX11_could_128 : decode cX11_could 128 = .ok (.iconst 0, 1) := by decide +kernel
theorem dX11_could_129 : decode cX11_could 129 = .ok (.goto 15, 3) := by decide +kernel
theorem dX11_could_125 : decode cX11_could 125 = .ok (.ifCond .ne 7, 3) := by decide +kernel
theorem dX11_could_120 : decode cX11_could 120 = .ok (.iload_n 3, 1) := by decide +kernel
theorem dX11_could_121 : decode cX11_could 121 = .ok (.goto 23, 3) := by decide +kernel
theorem dX11_could_117 : decode cX11_could 117 = .ok (.if_icmp .ne 7, 3) := by decide +kernel
theorem dX11_could_111 : decode cX11_could 111 = .ok (.iload_n 2, 1) := by decide +kernel
theorem dX11_could_112 : decode cX11_could 112 = .ok (.goto 32, 3) := by decide +kernel
theorem dX11_could_108 : decode cX11_could 108 = .ok (.ifCond .ne 7, 3) := by decide +kernel
theorem dX11_could_22 : decode cX11_could 22 = .ok (.ldc_w 277, 3) := by decide +kernel
theorem dX11_could_25 : decode cX11_could 25 = .ok (.ireturn, 1) := by decide +kernel
theorem dX11_could_19 : decode cX11_could 19 = .ok (.ifCond .ne 7, 3) := by decide +kernel
theorem dX11_could_12 : decode cX11_could 12 = .ok (.ldc 127, 2) := by decide +kernel
theorem dX11_could_14 : decode cX11_could 14 = .ok (.ireturn, 1) := by decide +kernel
theorem dX11_could_9 : decode cX11_could 9 = .ok (.ifCond .ne 6, 3) := by decide +kernel
theorem lX11_could_L51 (x : bo_X) (hx : bo_OK x cX11_could RX11 8 4 97) (σ : bo_M) (f1 : Int32) (f4 : Int32) : ∀ (n : Nat) (w2 : Int32) (w3 : Int32) (w5 : Int32) (w6 : Int32) (w7 : Int32), bo_D x 51 [(0, .ref (bo_a x 135)), (1, .int f1), (2, .int w2), (3, .int w3), (4, .int f4), (5, .int w5), (6, .int w6), (7, .int w7)] [] σ (mX11_could_L51 σ f1 f4 n w2 w3 w5 w6 w7) (fun a => bo_N x 107 [(1, .int f1), (2, .int a.1), (3, .int a.2.1), (5, .int a.2.2.1), (6, .int a.2.2.2)] [] σ) := by
  intro n
  induction n with
  | zero => intro w2 w3 w5 w6 w7; exact bo_none
  | succ n ih =>
    intro w2 w3 w5 w6 w7
    rw [mX11_could_L51]
    refine bo_iload hx dX11_could_51 7 rfl ?_
    refine bo_iload hx dX11_could_53 4 rfl ?_
    refine bo_icmp_gt hx 107 dX11_could_55 (by decide) ?_ ?_
    · refine bo_sub (L' := [(1, .int f1), (2, .int w2), (3, .int w3), (5, .int w5), (6, .int w6)]) [1, 2, 3, 5, 6] rfl ?_
      exact bo_arr (fun h => h)
    · refine bo_aload_n hx dX11_could_58 rfl 0 rfl ?_
      refine bo_iload hx dX11_could_59 7 rfl ?_
      refine bo_aload_n hx dX11_could_61 rfl 0 rfl ?_
      refine gf_X11_204 hx dX11_could_62 ?_
      refine bo_goR (z := true) hx (fun rr hh => bo_runV (As := [.int w7, .int (σ 135 2)]) (S := []) hx dX11_could_65 lk_X11_361 mi_X11_couldBe bo_o_135 rfl rfl (kX11_couldBe (bo_l x) (bo_g x) hx.inj σ w7 (σ 135 2) rr hh) ⟨by decide, by decide⟩ rfl rfl (Nat.le_of_ble_eq_true rfl)) (fun v2 hv2 => ?_)
      refine bo_seq 101 (fun a => [(0, .ref (bo_a x 135)), (1, .int f1), (2, .int a.1), (3, .int a.2.1), (4, .int f4), (5, .int a.2.2.1), (6, .int a.2.2.2), (7, .int w7)]) (fun a => []) (fun a => σ) ?_ (fun a3 => ?_)
      · refine bo_if_eq hx 101 dX11_could_68 (by decide) ?_ ?_
        · exact bo_arr (fun h => h)
        · refine bo_iload_n hx dX11_could_71 rfl 2 rfl ?_
          refine bo_seq 81 (fun a => [(0, .ref (bo_a x 135)), (1, .int f1), (2, .int w2), (4, .int f4), (5, .int w5), (6, .int w6), (7, .int w7)]) (fun a => [.int a]) (fun a => σ) ?_ (fun a4 => ?_)
          · refine bo_if_ne hx 80 dX11_could_72 (by decide) ?_ ?_
            · refine bo_iload_n hx dX11_could_80 rfl 3 rfl ?_
              refine bo_sub (L' := [(0, .ref (bo_a x 135)), (1, .int f1), (2, .int w2), (4, .int f4), (5, .int w5), (6, .int w6), (7, .int w7)]) [0, 1, 2, 4, 5, 6, 7] rfl ?_
              exact bo_arr (fun h => h)
            · refine bo_iload hx dX11_could_75 7 rfl ?_
              refine bo_goto hx 81 dX11_could_77 (by decide) ?_
              refine bo_sub (L' := [(0, .ref (bo_a x 135)), (1, .int f1), (2, .int w2), (4, .int f4), (5, .int w5), (6, .int w6), (7, .int w7)]) [0, 1, 2, 4, 5, 6, 7] rfl ?_
              exact bo_arr (fun h => h)
          · refine bo_istore_n (L' := [(3, .int a4), (0, .ref (bo_a x 135)), (1, .int f1), (2, .int w2), (4, .int f4), (5, .int w5), (6, .int w6), (7, .int w7)]) hx dX11_could_81 rfl (by decide) rfl ?_
            refine bo_iload hx dX11_could_82 5 rfl ?_
            refine bo_iload hx dX11_could_84 7 rfl ?_
            refine bo_iand hx dX11_could_86 ?_
            refine bo_istore (L' := [(5, .int (w5 &&& w7)), (3, .int a4), (0, .ref (bo_a x 135)), (1, .int f1), (2, .int w2), (4, .int f4), (6, .int w6), (7, .int w7)]) hx dX11_could_87 (by decide) rfl ?_
            refine bo_iload hx dX11_could_89 6 rfl ?_
            refine bo_iload hx dX11_could_91 7 rfl ?_
            refine bo_iconst (v := (-1)) hx dX11_could_93 (by decide) ?_
            refine bo_ixor hx dX11_could_94 ?_
            refine bo_iand hx dX11_could_95 ?_
            refine bo_istore (L' := [(6, .int (w6 &&& (w7 ^^^ (-1)))), (5, .int (w5 &&& w7)), (3, .int a4), (0, .ref (bo_a x 135)), (1, .int f1), (2, .int w2), (4, .int f4), (7, .int w7)]) hx dX11_could_96 (by decide) rfl ?_
            refine bo_iinc (L' := [(2, .int (w2 + 1)), (6, .int (w6 &&& (w7 ^^^ (-1)))), (5, .int (w5 &&& w7)), (3, .int a4), (0, .ref (bo_a x 135)), (1, .int f1), (4, .int f4), (7, .int w7)]) (w := (w2 + 1)) hx dX11_could_98 5 rfl rfl (by decide) rfl ?_
            refine bo_sub (L' := [(0, .ref (bo_a x 135)), (1, .int f1), (2, .int (w2 + 1)), (3, .int a4), (4, .int f4), (5, .int (w5 &&& w7)), (6, .int (w6 &&& (w7 ^^^ (-1)))), (7, .int w7)]) [4, 5, 0, 3, 6, 2, 1, 7] rfl ?_
            exact bo_arr (fun h => h)
      · refine bo_iinc (L' := [(7, .int (w7 + 1)), (0, .ref (bo_a x 135)), (1, .int f1), (2, .int a3.1), (3, .int a3.2.1), (4, .int f4), (5, .int a3.2.2.1), (6, .int a3.2.2.2)]) (w := (w7 + 1)) hx dX11_could_101 7 rfl rfl (by decide) rfl ?_
        refine bo_goto hx 51 dX11_could_104 (by decide) ?_
        refine bo_sub (L' := [(0, .ref (bo_a x 135)), (1, .int f1), (2, .int a3.1), (3, .int a3.2.1), (4, .int f4), (5, .int a3.2.2.1), (6, .int a3.2.2.2), (7, .int (w7 + 1))]) [1, 2, 3, 4, 5, 6, 7, 0] rfl ?_
        exact ih a3.1 a3.2.1 a3.2.2.1 a3.2.2.2 (w7 + 1)
theorem bX11_could (x : bo_X) (hx : bo_OK x cX11_could RX11 8 4 97) (σ : bo_M) (p1 : Int32) : bo_D x 0 [(0, .ref (bo_a x 135)), (1, .int p1)] [] σ (mX11_could σ p1) (bo_Ri x cX11_could σ false) := by
  unfold mX11_could
  refine bo_iload_n hx dX11_could_0 rfl 1 rfl ?_
  refine bo_i2l hx dX11_could_1 ?_
  refine bo_lconst (v := 0) hx dX11_could_2 (by decide) ?_
  refine bo_ldc2 (v := 3) hx dX11_could_3 wl_X11_359 ?_
  refine bo_goR (z := true) hx (fun rr hh => bo_runS (As := [.long (Int32.toInt64 p1), .long 0, .long 3]) (S := []) hx dX11_could_6 lk_X11_118 ms_X11_in (kX11_in (bo_l x) (bo_g x) hx.inj σ (Int32.toInt64 p1) 0 3 rr hh) ⟨by decide, by decide⟩ rfl rfl (Nat.le_of_ble_eq_true rfl)) (fun v1 hv1 => ?_)
  refine bo_if_ne hx 15 dX11_could_9 (by decide) ?_ ?_
  · refine bo_aload_n hx dX11_could_15 rfl 0 rfl ?_
    refine gf_X11_111 hx dX11_could_16 ?_
    refine bo_if_ne hx 26 dX11_could_19 (by decide) ?_ ?_
    · refine bo_iconst (v := 0) hx dX11_could_26 (by decide) ?_
      refine bo_istore_n (L' := [(2, .int 0), (0, .ref (bo_a x 135)), (1, .int p1)]) hx dX11_could_27 rfl (by decide) rfl ?_
      refine bo_iconst (v := (-1)) hx dX11_could_28 (by decide) ?_
      refine bo_istore_n (L' := [(3, .int (-1)), (2, .int 0), (0, .ref (bo_a x 135)), (1, .int p1)]) hx dX11_could_29 rfl (by decide) rfl ?_
      refine bo_iconst (v := 1) hx dX11_could_30 (by decide) ?_
      refine bo_aload_n hx dX11_could_31 rfl 2 rfl ?_
      refine gf_X11_115 hx dX11_could_32 ?_
      refine bo_ishl hx dX11_could_35 ?_
      refine bo_iconst (v := 1) hx dX11_could_36 (by decide) ?_
      refine bo_isub hx dX11_could_37 ?_
      refine bo_istore (L' := [(4, .int ((1 <<< ((σ 135 4) &&& 31)) - 1)), (3, .int (-1)), (2, .int 0), (0, .ref (bo_a x 135)), (1, .int p1)]) hx dX11_could_38 (by decide) rfl ?_
      refine bo_iload hx dX11_could_40 0 rfl ?_
      refine bo_istore (L' := [(5, .int ((1 <<< ((σ 135 4) &&& 31)) - 1)), (4, .int ((1 <<< ((σ 135 4) &&& 31)) - 1)), (3, .int (-1)), (2, .int 0), (0, .ref (bo_a x 135)), (1, .int p1)]) hx dX11_could_42 (by decide) rfl ?_
      refine bo_iload hx dX11_could_44 1 rfl ?_
      refine bo_istore (L' := [(6, .int ((1 <<< ((σ 135 4) &&& 31)) - 1)), (5, .int ((1 <<< ((σ 135 4) &&& 31)) - 1)), (4, .int ((1 <<< ((σ 135 4) &&& 31)) - 1)), (3, .int (-1)), (2, .int 0), (0, .ref (bo_a x 135)), (1, .int p1)]) hx dX11_could_46 (by decide) rfl ?_
      refine bo_iconst (v := 0) hx dX11_could_48 (by decide) ?_
      refine bo_istore (L' := [(7, .int 0), (6, .int ((1 <<< ((σ 135 4) &&& 31)) - 1)), (5, .int ((1 <<< ((σ 135 4) &&& 31)) - 1)), (4, .int ((1 <<< ((σ 135 4) &&& 31)) - 1)), (3, .int (-1)), (2, .int 0), (0, .ref (bo_a x 135)), (1, .int p1)]) hx dX11_could_49 (by decide) rfl ?_
      refine bo_sub (L' := [(0, .ref (bo_a x 135)), (1, .int p1), (2, .int 0), (3, .int (-1)), (4, .int ((1 <<< ((σ 135 4) &&& 31)) - 1)), (5, .int ((1 <<< ((σ 135 4) &&& 31)) - 1)), (6, .int ((1 <<< ((σ 135 4) &&& 31)) - 1)), (7, .int 0)]) [6, 7, 5, 4, 3, 2, 1, 0] rfl ?_
      refine bo_seq 107 (fun a => [(1, .int p1), (2, .int a.1), (3, .int a.2.1), (5, .int a.2.2.1), (6, .int a.2.2.2)]) (fun a => []) (fun a => σ) (lX11_could_L51 x hx σ p1 ((1 <<< ((σ 135 4) &&& 31)) - 1) bo_fuel 0 (-1) ((1 <<< ((σ 135 4) &&& 31)) - 1) ((1 <<< ((σ 135 4) &&& 31)) - 1) 0) (fun a5 => ?_)
      refine bo_iload_n hx dX11_could_107 rfl 0 rfl ?_
      refine bo_if_ne hx 115 dX11_could_108 (by decide) ?_ ?_
      · refine bo_iload_n hx dX11_could_115 rfl 0 rfl ?_
        refine bo_iconst (v := 1) hx dX11_could_116 (by decide) ?_
        refine bo_icmp_ne hx 124 dX11_could_117 (by decide) ?_ ?_
        · refine bo_iload_n hx dX11_could_124 rfl 1 rfl ?_
          refine bo_if_ne hx 132 dX11_could_125 (by decide) ?_ ?_
          · refine bo_iload_n hx dX11_could_132 rfl 0 rfl ?_
            refine bo_iconst (v := 2) hx dX11_could_133 (by decide) ?_
            refine bo_icmp_ne hx 142 dX11_could_134 (by decide) ?_ ?_
            · refine bo_iload hx dX11_could_142 4 rfl ?_
              exact bo_ret dX11_could_144 (fun h => by cases h)
            · refine bo_iload hx dX11_could_137 3 rfl ?_
              refine bo_goto hx 144 dX11_could_139 (by decide) ?_
              exact bo_ret dX11_could_144 (fun h => by cases h)
          · refine bo_iconst (v := 0) hx dX11_could_128 (by decide) ?_
            refine bo_goto hx 144 dX11_could_129 (by decide) ?_
            exact bo_ret dX11_could_144 (fun h => by cases h)
        · refine bo_iload_n hx dX11_could_120 rfl 2 rfl ?_
          refine bo_goto hx 144 dX11_could_121 (by decide) ?_
          exact bo_ret dX11_could_144 (fun h => by cases h)
      · refine bo_iload_n hx dX11_could_111 rfl 1 rfl ?_
        refine bo_goto hx 144 dX11_could_112 (by decide) ?_
        exact bo_ret dX11_could_144 (fun h => by cases h)
    · refine bo_ldcw (v := (-1000000003)) hx dX11_could_22 wc_X11_277 ?_
      exact bo_ret dX11_could_25 (fun h => by cases h)
  · refine bo_ldc (v := (-1000000002)) hx dX11_could_12 wc_X11_127 ?_
    exact bo_ret dX11_could_14 (fun h => by cases h)
theorem kX11_could (l : Launch) (g : bo_G) (hi : bo_inj g) (σ : bo_M) (p1 : Int32) : bo_CR l g yX11_could cX11_could 8 (some .int) 4 97 [.ref (g.2.2 135), .int p1] σ false (mX11_could σ p1) :=
  bo_metR rfl (Or.inl ⟨rfl, rfl⟩) (by decide) rfl hi (Nat.le_of_ble_eq_true rfl) (fun x e1 e2 hx => by subst e1; subst e2; exact bX11_could x hx σ p1)
-- BellRopeModel.greatestPart
theorem dX11_greatestPart_0 : decode cX11_greatestPart 0 = .ok (.iconst 0, 1) := by decide +kernel
theorem dX11_greatestPart_1 : decode cX11_greatestPart 1 = .ok (.istore_n 2, 1) := by decide +kernel
theorem dX11_greatestPart_2 : decode cX11_greatestPart 2 = .ok (.iconst 0, 1) := by decide +kernel
theorem dX11_greatestPart_3 : decode cX11_greatestPart 3 = .ok (.istore_n 3, 1) := by decide +kernel
theorem dX11_greatestPart_4 : decode cX11_greatestPart 4 = .ok (.iload_n 3, 1) := by decide +kernel
theorem dX11_greatestPart_5 : decode cX11_greatestPart 5 = .ok (.bipush 20, 2) := by decide +kernel
theorem dX11_greatestPart_10 : decode cX11_greatestPart 10 = .ok (.aload_n 0, 1) := by decide +kernel
theorem dX11_greatestPart_11 : decode cX11_greatestPart 11 = .ok (.getfield 96, 3) := by decide +kernel
theorem dX11_greatestPart_14 : decode cX11_greatestPart 14 = .ok (.iload_n 3, 1) := by decide +kernel
theorem dX11_greatestPart_15 : decode cX11_greatestPart 15 = .ok (.iconst 0, 1) := by decide +kernel
theorem dX11_greatestPart_16 : decode cX11_greatestPart 16 = .ok (.iastore, 1) := by decide +kernel
theorem dX11_greatestPart_17 : decode cX11_greatestPart 17 = .ok (.iinc 3 1, 3) := by decide +kernel
theorem dX11_greatestPart_20 : decode cX11_greatestPart 20 = .ok (.goto (-16), 3) := by decide +kernel
theorem dX11_greatestPart_7 : decode cX11_greatestPart 7 = .ok (.if_icmp .ge 16, 3) := by decide +kernel
theorem dX11_greatestPart_23 : decode cX11_greatestPart 23 = .ok (.iconst 0, 1) := by decide +kernel
theorem dX11_greatestPart_24 : decode cX11_greatestPart 24 = .ok (.istore_n 3, 1) := by decide +kernel
theorem dX11_greatestPart_25 : decode cX11_greatestPart 25 = .ok (.iload_n 3, 1) := by decide +kernel
theorem dX11_greatestPart_26 : decode cX11_greatestPart 26 = .ok (.iconst 1, 1) := by decide +kernel
theorem dX11_greatestPart_27 : decode cX11_greatestPart 27 = .ok (.aload_n 0, 1) := by decide +kernel
theorem dX11_greatestPart_28 : decode cX11_greatestPart 28 = .ok (.getfield 115, 3) := by decide +kernel
theorem dX11_greatestPart_31 : decode cX11_greatestPart 31 = .ok (.ishl, 1) := by decide +kernel
theorem dX11_greatestPart_35 : decode cX11_greatestPart 35 = .ok (.aload_n 0, 1) := by decide +kernel
theorem dX11_greatestPart_36 : decode cX11_greatestPart 36 = .ok (.getfield 92, 3) := by decide +kernel
theorem dX11_greatestPart_39 : decode cX11_greatestPart 39 = .ok (.iload_n 3, 1) := by decide +kernel
theorem dX11_greatestPart_40 : decode cX11_greatestPart 40 = .ok (.baload, 1) := by decide +kernel
theorem dX11_greatestPart_44 : decode cX11_greatestPart 44 = .ok (.aload_n 0, 1) := by decide +kernel
theorem dX11_greatestPart_45 : decode cX11_greatestPart 45 = .ok (.iload_n 3, 1) := by decide +kernel
theorem dX11_greatestPart_46 : decode cX11_greatestPart 46 = .ok (.iload_n 1, 1) := by decide +kernel
theorem dX11_greatestPart_47 : decode cX11_greatestPart 47 = .ok (.aload_n 0, 1) := by decide +kernel
theorem dX11_greatestPart_48 : decode cX11_greatestPart 48 = .ok (.getfield 204, 3) := by decide +kernel
theorem dX11_greatestPart_51 : decode cX11_greatestPart 51 = .ok (.invokevirtual 355, 3) := by decide +kernel
theorem dX11_greatestPart_54 : decode cX11_greatestPart 54 = .ok (.istore 4, 2) := by decide +kernel
theorem dX11_greatestPart_56 : decode cX11_greatestPart 56 = .ok (.aload_n 0, 1) := by decide +kernel
theorem dX11_greatestPart_57 : decode cX11_greatestPart 57 = .ok (.getfield 96, 3) := by decide +kernel
theorem dX11_greatestPart_60 : decode cX11_greatestPart 60 = .ok (.iload 4, 2) := by decide +kernel
theorem dX11_greatestPart_62 : decode cX11_greatestPart 62 = .ok (.dup2, 1) := by decide +kernel
theorem dX11_greatestPart_63 : decode cX11_greatestPart 63 = .ok (.iaload, 1) := by decide +kernel
theorem dX11_greatestPart_64 : decode cX11_greatestPart 64 = .ok (.iconst 1, 1) := by decide +kernel
theorem dX11_greatestPart_65 : decode cX11_greatestPart 65 = .ok (.iadd, 1) := by decide +kernel
theorem dX11_greatestPart_66 : decode cX11_greatestPart 66 = .ok (.iastore, 1) := by decide +kernel
theorem dX11_greatestPart_67 : decode cX11_greatestPart 67 = .ok (.aload_n 0, 1) := by decide +kernel
theorem dX11_greatestPart_68 : decode cX11_greatestPart 68 = .ok (.getfield 96, 3) := by decide +kernel
theorem dX11_greatestPart_71 : decode cX11_greatestPart 71 = .ok (.iload 4, 2) := by decide +kernel
theorem dX11_greatestPart_73 : decode cX11_greatestPart 73 = .ok (.iaload, 1) := by decide +kernel
theorem dX11_greatestPart_74 : decode cX11_greatestPart 74 = .ok (.iload_n 2, 1) := by decide +kernel
theorem dX11_greatestPart_88 : decode cX11_greatestPart 88 = .ok (.iload_n 2, 1) := by decide +kernel
theorem dX11_greatestPart_78 : decode cX11_greatestPart 78 = .ok (.aload_n 0, 1) := by decide +kernel
theorem dX11_greatestPart_79 : decode cX11_greatestPart 79 = .ok (.getfield 96, 3) := by decide +kernel
theorem dX11_greatestPart_82 : decode cX11_greatestPart 82 = .ok (.iload 4, 2) := by decide +kernel
theorem dX11_greatestPart_84 : decode cX11_greatestPart 84 = .ok (.iaload, 1) := by decide +kernel
theorem dX11_greatestPart_85 : decode cX11_greatestPart 85 = .ok (.goto 4, 3) := by decide +kernel
theorem dX11_greatestPart_75 : decode cX11_greatestPart 75 = .ok (.if_icmp .le 13, 3) := by decide +kernel
theorem dX11_greatestPart_89 : decode cX11_greatestPart 89 = .ok (.istore_n 2, 1) := by decide +kernel
theorem dX11_greatestPart_41 : decode cX11_greatestPart 41 = .ok (.ifCond .eq 49, 3) := by decide +kernel
theorem dX11_greatestPart_90 : decode cX11_greatestPart 90 = .ok (.iinc 3 1, 3) := by decide +kernel
theorem dX11_greatestPart_93 : decode cX11_greatestPart 93 = .ok (.goto (-68), 3) := by decide +kernel
theorem dX11_greatestPart_32 : decode cX11_greatestPart 32 = .ok (.if_icmp .ge 64, 3) := by decide +kernel
theorem dX11_greatestPart_96 : decode cX11_greatestPart 96 = .ok (.iload_n 2, 1) := by decide +kernel
theorem dX11_greatestPart_97 : decode cX11_greatestPart 97 = .ok (.ireturn, 1) := by decide +kernel
theorem lX11_greatestPart_L4 (x : bo_X) (hx : bo_OK x cX11_greatestPart RX11 5 3 73) (f1 : Int32) (f2 : Int32) : ∀ (n : Nat) (w3 : Int32) (σ : bo_M), bo_D x 4 [(0, .ref (bo_a x 135)), (1, .int f1), (2, .int f2), (3, .int w3)] [] σ (mX11_greatestPart_L4 f1 f2 n w3 σ) (fun a => bo_N x 23 [(0, .ref (bo_a x 135)), (1, .int f1), (2, .int f2)] [] a) := by
  intro n
  induction n with
  | zero => intro w3 σ; exact bo_none
  | succ n ih =>
    intro w3 σ
    rw [mX11_greatestPart_L4]
    refine bo_iload_n hx dX11_greatestPart_4 rfl 3 rfl ?_
    refine bo_bipush (v := 20) hx dX11_greatestPart_5 (by decide) ?_
    refine bo_icmp_ge hx 23 dX11_greatestPart_7 (by decide) ?_ ?_
    · refine bo_sub (L' := [(0, .ref (bo_a x 135)), (1, .int f1), (2, .int f2)]) [0, 1, 2] rfl ?_
      exact bo_arr (fun h => h)
    · refine bo_aload_n hx dX11_greatestPart_10 rfl 0 rfl ?_
      refine gf_X11_96 hx dX11_greatestPart_11 ?_
      refine bo_iload_n hx dX11_greatestPart_14 rfl 3 rfl ?_
      refine bo_iconst (v := 0) hx dX11_greatestPart_15 (by decide) ?_
      refine bo_iast hx bo_c_163 dX11_greatestPart_16 (fun σ1 => ?_)
      refine bo_iinc (L' := [(3, .int (w3 + 1)), (0, .ref (bo_a x 135)), (1, .int f1), (2, .int f2)]) (w := (w3 + 1)) hx dX11_greatestPart_17 3 rfl rfl (by decide) rfl ?_
      refine bo_goto hx 4 dX11_greatestPart_20 (by decide) ?_
      refine bo_sub (L' := [(0, .ref (bo_a x 135)), (1, .int f1), (2, .int f2), (3, .int (w3 + 1))]) [1, 2, 3, 0] rfl ?_
      exact ih (w3 + 1) σ1
theorem lX11_greatestPart_L25 (x : bo_X) (hx : bo_OK x cX11_greatestPart RX11 5 3 73) (f1 : Int32) : ∀ (n : Nat) (w2 : Int32) (w3 : Int32) (σ : bo_M), bo_D x 25 [(0, .ref (bo_a x 135)), (1, .int f1), (2, .int w2), (3, .int w3)] [] σ (mX11_greatestPart_L25 f1 n w2 w3 σ) (fun a => bo_N x 96 [(2, .int a.1)] [] a.2) := by
  intro n
  induction n with
  | zero => intro w2 w3 σ; exact bo_none
  | succ n ih =>
    intro w2 w3 σ
    rw [mX11_greatestPart_L25]
    refine bo_iload_n hx dX11_greatestPart_25 rfl 3 rfl ?_
    refine bo_iconst (v := 1) hx dX11_greatestPart_26 (by decide) ?_
    refine bo_aload_n hx dX11_greatestPart_27 rfl 0 rfl ?_
    refine gf_X11_115 hx dX11_greatestPart_28 ?_
    refine bo_ishl hx dX11_greatestPart_31 ?_
    refine bo_icmp_ge hx 96 dX11_greatestPart_32 (by decide) ?_ ?_
    · refine bo_sub (L' := [(2, .int w2)]) [2] rfl ?_
      exact bo_arr (fun h => h)
    · refine bo_aload_n hx dX11_greatestPart_35 rfl 0 rfl ?_
      refine gf_X11_92 hx dX11_greatestPart_36 ?_
      refine bo_iload_n hx dX11_greatestPart_39 rfl 3 rfl ?_
      refine bo_zald hx bo_c_162 dX11_greatestPart_40 (fun v3 => ?_)
      refine bo_seq 90 (fun a => [(0, .ref (bo_a x 135)), (1, .int f1), (2, .int a.1), (3, .int w3)]) (fun a => []) (fun a => a.2) ?_ (fun a4 => ?_)
      · refine bo_if_eq hx 90 dX11_greatestPart_41 (by decide) ?_ ?_
        · exact bo_arr (fun h => h)
        · refine bo_aload_n hx dX11_greatestPart_44 rfl 0 rfl ?_
          refine bo_iload_n hx dX11_greatestPart_45 rfl 3 rfl ?_
          refine bo_iload_n hx dX11_greatestPart_46 rfl 1 rfl ?_
          refine bo_aload_n hx dX11_greatestPart_47 rfl 0 rfl ?_
          refine gf_X11_204 hx dX11_greatestPart_48 ?_
          refine bo_goR (z := false) hx (fun rr hh => bo_runV (As := [.int w3, .int f1, .int (σ 135 2)]) (S := []) hx dX11_greatestPart_51 lk_X11_355 mi_X11_heardBy bo_o_135 rfl rfl (kX11_heardBy (bo_l x) (bo_g x) hx.inj σ w3 f1 (σ 135 2) rr hh) ⟨by decide, by decide⟩ rfl rfl (Nat.le_of_ble_eq_true rfl)) (fun v5 hv5 => ?_)
          refine bo_istore (L' := [(4, .int v5), (0, .ref (bo_a x 135)), (1, .int f1), (2, .int w2), (3, .int w3)]) hx dX11_greatestPart_54 (by decide) rfl ?_
          refine bo_aload_n hx dX11_greatestPart_56 rfl 1 rfl ?_
          refine gf_X11_96 hx dX11_greatestPart_57 ?_
          refine bo_iload hx dX11_greatestPart_60 0 rfl ?_
          refine bo_dup2 hx dX11_greatestPart_62 rfl rfl ?_
          refine bo_iald hx bo_c_163 dX11_greatestPart_63 (fun v6 => ?_)
          refine bo_iconst (v := 1) hx dX11_greatestPart_64 (by decide) ?_
          refine bo_iadd hx dX11_greatestPart_65 ?_
          refine bo_iast hx bo_c_163 dX11_greatestPart_66 (fun σ7 => ?_)
          refine bo_aload_n hx dX11_greatestPart_67 rfl 1 rfl ?_
          refine gf_X11_96 hx dX11_greatestPart_68 ?_
          refine bo_iload hx dX11_greatestPart_71 0 rfl ?_
          refine bo_iald hx bo_c_163 dX11_greatestPart_73 (fun v8 => ?_)
          refine bo_iload_n hx dX11_greatestPart_74 rfl 3 rfl ?_
          refine bo_seq 89 (fun a => [(0, .ref (bo_a x 135)), (1, .int f1), (3, .int w3)]) (fun a => [.int a]) (fun a => σ7) ?_ (fun a9 => ?_)
          · refine bo_icmp_le hx 88 dX11_greatestPart_75 (by decide) ?_ ?_
            · refine bo_iload_n hx dX11_greatestPart_88 rfl 3 rfl ?_
              refine bo_sub (L' := [(0, .ref (bo_a x 135)), (1, .int f1), (3, .int w3)]) [1, 2, 4] rfl ?_
              exact bo_arr (fun h => h)
            · refine bo_aload_n hx dX11_greatestPart_78 rfl 1 rfl ?_
              refine gf_X11_96 hx dX11_greatestPart_79 ?_
              refine bo_iload hx dX11_greatestPart_82 0 rfl ?_
              refine bo_iald hx bo_c_163 dX11_greatestPart_84 (fun v10 => ?_)
              refine bo_goto hx 89 dX11_greatestPart_85 (by decide) ?_
              refine bo_sub (L' := [(0, .ref (bo_a x 135)), (1, .int f1), (3, .int w3)]) [1, 2, 4] rfl ?_
              exact bo_arr (fun h => h)
          · refine bo_istore_n (L' := [(2, .int a9), (0, .ref (bo_a x 135)), (1, .int f1), (3, .int w3)]) hx dX11_greatestPart_89 rfl (by decide) rfl ?_
            refine bo_sub (L' := [(0, .ref (bo_a x 135)), (1, .int f1), (2, .int a9), (3, .int w3)]) [1, 2, 0, 3] rfl ?_
            exact bo_arr (fun h => h)
      · refine bo_iinc (L' := [(3, .int (w3 + 1)), (0, .ref (bo_a x 135)), (1, .int f1), (2, .int a4.1)]) (w := (w3 + 1)) hx dX11_greatestPart_90 3 rfl rfl (by decide) rfl ?_
        refine bo_goto hx 25 dX11_greatestPart_93 (by decide) ?_
        refine bo_sub (L' := [(0, .ref (bo_a x 135)), (1, .int f1), (2, .int a4.1), (3, .int (w3 + 1))]) [1, 2, 3, 0] rfl ?_
        exact ih a4.1 (w3 + 1) a4.2
theorem bX11_greatestPart (x : bo_X) (hx : bo_OK x cX11_greatestPart RX11 5 3 73) (σ : bo_M) (p1 : Int32) : bo_D x 0 [(0, .ref (bo_a x 135)), (1, .int p1)] [] σ (mX11_greatestPart σ p1) (bo_Rw x cX11_greatestPart false) := by
  unfold mX11_greatestPart
  refine bo_iconst (v := 0) hx dX11_greatestPart_0 (by decide) ?_
  refine bo_istore_n (L' := [(2, .int 0), (0, .ref (bo_a x 135)), (1, .int p1)]) hx dX11_greatestPart_1 rfl (by decide) rfl ?_
  refine bo_iconst (v := 0) hx dX11_greatestPart_2 (by decide) ?_
  refine bo_istore_n (L' := [(3, .int 0), (2, .int 0), (0, .ref (bo_a x 135)), (1, .int p1)]) hx dX11_greatestPart_3 rfl (by decide) rfl ?_
  refine bo_sub (L' := [(0, .ref (bo_a x 135)), (1, .int p1), (2, .int 0), (3, .int 0)]) [2, 3, 1, 0] rfl ?_
  refine bo_seq 23 (fun a => [(0, .ref (bo_a x 135)), (1, .int p1), (2, .int 0)]) (fun a => []) (fun a => a) (lX11_greatestPart_L4 x hx p1 0 bo_fuel 0 σ) (fun a2 => ?_)
  refine bo_iconst (v := 0) hx dX11_greatestPart_23 (by decide) ?_
  refine bo_istore_n (L' := [(3, .int 0), (0, .ref (bo_a x 135)), (1, .int p1), (2, .int 0)]) hx dX11_greatestPart_24 rfl (by decide) rfl ?_
  refine bo_sub (L' := [(0, .ref (bo_a x 135)), (1, .int p1), (2, .int 0), (3, .int 0)]) [1, 2, 3, 0] rfl ?_
  refine bo_seq 96 (fun a => [(2, .int a.1)]) (fun a => []) (fun a => a.2) (lX11_greatestPart_L25 x hx p1 bo_fuel 0 0 a2) (fun a11 => ?_)
  refine bo_iload_n hx dX11_greatestPart_96 rfl 0 rfl ?_
  exact bo_retw dX11_greatestPart_97 (fun h => by cases h)
theorem kX11_greatestPart (l : Launch) (g : bo_G) (hi : bo_inj g) (σ : bo_M) (p1 : Int32) : bo_CW l g yX11_greatestPart cX11_greatestPart 5 (some .int) 3 73 [.ref (g.2.2 135), .int p1] σ false (mX11_greatestPart σ p1) :=
  bo_metW rfl (Or.inl ⟨rfl, rfl⟩) (by decide) rfl hi (Nat.le_of_ble_eq_true rfl) (fun x e1 e2 hx => by subst e1; subst e2; exact bX11_greatestPart x hx σ p1)
-- BellRopeModel.listen
theorem dX11_listen_0 : decode cX11_listen 0 = .ok (.aload_n 0, 1) := by decide +kernel
theorem dX11_listen_1 : decode cX11_listen 1 = .ok (.getfield 111, 3) := by decide +kernel
theorem dX11_listen_11 : decode cX11_listen 11 = .ok (.iconst (-1), 1) := by decide +kernel
theorem dX11_listen_12 : decode cX11_listen 12 = .ok (.istore_n 1, 1) := by decide +kernel
theorem dX11_listen_13 : decode cX11_listen 13 = .ok (.iconst 0, 1) := by decide +kernel
theorem dX11_listen_14 : decode cX11_listen 14 = .ok (.istore_n 2, 1) := by decide +kernel
theorem dX11_listen_15 : decode cX11_listen 15 = .ok (.iconst 0, 1) := by decide +kernel
theorem dX11_listen_16 : decode cX11_listen 16 = .ok (.istore_n 3, 1) := by decide +kernel
theorem dX11_listen_17 : decode cX11_listen 17 = .ok (.iload_n 3, 1) := by decide +kernel
theorem dX11_listen_18 : decode cX11_listen 18 = .ok (.iconst 1, 1) := by decide +kernel
theorem dX11_listen_19 : decode cX11_listen 19 = .ok (.aload_n 0, 1) := by decide +kernel
theorem dX11_listen_20 : decode cX11_listen 20 = .ok (.getfield 115, 3) := by decide +kernel
theorem dX11_listen_23 : decode cX11_listen 23 = .ok (.ishl, 1) := by decide +kernel
theorem dX11_listen_27 : decode cX11_listen 27 = .ok (.aload_n 0, 1) := by decide +kernel
theorem dX11_listen_28 : decode cX11_listen 28 = .ok (.getfield 92, 3) := by decide +kernel
theorem dX11_listen_31 : decode cX11_listen 31 = .ok (.iload_n 3, 1) := by decide +kernel
theorem dX11_listen_32 : decode cX11_listen 32 = .ok (.aload_n 0, 1) := by decide +kernel
theorem dX11_listen_33 : decode cX11_listen 33 = .ok (.iload_n 3, 1) := by decide +kernel
theorem dX11_listen_34 : decode cX11_listen 34 = .ok (.aload_n 0, 1) := by decide +kernel
theorem dX11_listen_35 : decode cX11_listen 35 = .ok (.getfield 204, 3) := by decide +kernel
theorem dX11_listen_38 : decode cX11_listen 38 = .ok (.invokevirtual 361, 3) := by decide +kernel
theorem dX11_listen_41 : decode cX11_listen 41 = .ok (.bastore, 1) := by decide +kernel
theorem dX11_listen_42 : decode cX11_listen 42 = .ok (.iload_n 2, 1) := by decide +kernel
theorem dX11_listen_43 : decode cX11_listen 43 = .ok (.aload_n 0, 1) := by decide +kernel
theorem dX11_listen_44 : decode cX11_listen 44 = .ok (.getfield 92, 3) := by decide +kernel
theorem dX11_listen_47 : decode cX11_listen 47 = .ok (.iload_n 3, 1) := by decide +kernel
theorem dX11_listen_48 : decode cX11_listen 48 = .ok (.baload, 1) := by decide +kernel
theorem dX11_listen_56 : decode cX11_listen 56 = .ok (.iconst 0, 1) := by decide +kernel
theorem dX11_listen_52 : decode cX11_listen 52 = .ok (.iconst 1, 1) := by decide +kernel
theorem dX11_listen_53 : decode cX11_listen 53 = .ok (.goto 4, 3) := by decide +kernel
theorem dX11_listen_49 : decode cX11_listen 49 = .ok (.ifCond .eq 7, 3) := by decide +kernel
theorem dX11_listen_57 : decode cX11_listen 57 = .ok (.iadd, 1) := by decide +kernel
theorem dX11_listen_58 : decode cX11_listen 58 = .ok (.istore_n 2, 1) := by decide +kernel
theorem dX11_listen_59 : decode cX11_listen 59 = .ok (.iinc 3 1, 3) := by decide +kernel
theorem dX11_listen_62 : decode cX11_listen 62 = .ok (.goto (-45), 3) := by decide +kernel
theorem dX11_listen_24 : decode cX11_listen 24 = .ok (.if_icmp .ge 41, 3) := by decide +kernel
theorem dX11_listen_65 : decode cX11_listen 65 = .ok (.iconst 0, 1) := by decide +kernel
theorem dX11_listen_66 : decode cX11_listen 66 = .ok (.istore_n 3, 1) := by decide +kernel
theorem dX11_listen_67 : decode cX11_listen 67 = .ok (.iload_n 3, 1) := by decide +kernel
theorem dX11_listen_68 : decode cX11_listen 68 = .ok (.bipush 96, 2) := by decide +kernel
theorem dX11_listen_73 : decode cX11_listen 73 = .ok (.aload_n 0, 1) := by decide +kernel
theorem dX11_listen_74 : decode cX11_listen 74 = .ok (.iload_n 3, 1) := by decide +kernel
theorem dX11_listen_75 : decode cX11_listen 75 = .ok (.invokevirtual 364, 3) := by decide +kernel
theorem dX11_listen_78 : decode cX11_listen 78 = .ok (.istore 4, 2) := by decide +kernel
theorem dX11_listen_80 : decode cX11_listen 80 = .ok (.iload 4, 2) := by decide +kernel
theorem dX11_listen_82 : decode cX11_listen 82 = .ok (.iload_n 2, 1) := by decide +kernel
theorem dX11_listen_90 : decode cX11_listen 90 = .ok (.iload_n 1, 1) := by decide +kernel
theorem dX11_listen_86 : decode cX11_listen 86 = .ok (.iload_n 3, 1) := by decide +kernel
theorem dX11_listen_87 : decode cX11_listen 87 = .ok (.goto 4, 3) := by decide +kernel
theorem dX11_listen_83 : decode cX11_listen 83 = .ok (.if_icmp .ge 7, 3) := by decide +kernel
theorem dX11_listen_91 : decode cX11_listen 91 = .ok (.istore_n 1, 1) := by decide +kernel
theorem dX11_listen_92 : decode cX11_listen 92 = .ok (.iload 4, 2) := by decide +kernel
theorem dX11_listen_94 : decode cX11_listen 94 = .ok (.iload_n 2, 1) := by decide +kernel
theorem dX11_listen_103 : decode cX11_listen 103 = .ok (.iload_n 2, 1) := by decide +kernel
theorem dX11_listen_98 : decode cX11_listen 98 = .ok (.iload 4, 2) := by decide +kernel
theorem dX11_listen_100 : decode cX11_listen 100 = .ok (.goto 4, 3) := by decide +kernel
theorem dX11_listen_95 : decode cX11_listen 95 = .ok (.if_icmp .ge 8, 3) := by decide +kernel
theorem dX11_listen_104 : decode cX11_listen 104 = .ok (.istore_n 2, 1) := by decide +kernel
theorem dX11_listen_105 : decode cX11_listen 105 = .ok (.iinc 3 1, 3) := by decide +kernel
theorem dX11_listen_108 : decode cX11_listen 108 = .ok (.goto (-41), 3) := by decide +kernel
theorem dX11_listen_70 : decode cX11_listen 70 = .ok (.if_icmp .ge 41, 3) := by decide +kernel
theorem dX11_listen_111 : decode cX11_listen 111 = .ok (.iload_n 1, 1) := by decide +kernel
theorem dX11_listen_112 : decode cX11_listen 112 = .ok (.ireturn, 1) := by decide +kernel
theorem dX11_listen_7 : decode cX11_listen 7 = .ok (.ldc_w 277, 3) := by decide +kernel
theorem dX11_listen_10 : decode cX11_listen 10 = .ok (.ireturn, 1) := by decide +kernel
theorem dX11_listen_4 : decode cX11_listen 4 = .ok (.ifCond .ne 7, 3) := by decide +kernel
theorem lX11_listen_L17 (x : bo_X) (hx : bo_OK x cX11_listen RX11 5 4 97) (f1 : Int32) : ∀ (n : Nat) (w2 : Int32) (w3 : Int32) (σ : bo_M), bo_D x 17 [(0, .ref (bo_a x 135)), (1, .int f1), (2, .int w2), (3, .int w3)] [] σ (mX11_listen_L17 f1 n w2 w3 σ) (fun a => bo_N x 65 [(0, .ref (bo_a x 135)), (1, .int f1), (2, .int a.1)] [] a.2) := by
  intro n
  induction n with
  | zero => intro w2 w3 σ; exact bo_none
  | succ n ih =>
    intro w2 w3 σ
    rw [mX11_listen_L17]
    refine bo_iload_n hx dX11_listen_17 rfl 3 rfl ?_
    refine bo_iconst (v := 1) hx dX11_listen_18 (by decide) ?_
    refine bo_aload_n hx dX11_listen_19 rfl 0 rfl ?_
    refine gf_X11_115 hx dX11_listen_20 ?_
    refine bo_ishl hx dX11_listen_23 ?_
    refine bo_icmp_ge hx 65 dX11_listen_24 (by decide) ?_ ?_
    · refine bo_sub (L' := [(0, .ref (bo_a x 135)), (1, .int f1), (2, .int w2)]) [0, 1, 2] rfl ?_
      exact bo_arr (fun h => h)
    · refine bo_aload_n hx dX11_listen_27 rfl 0 rfl ?_
      refine gf_X11_92 hx dX11_listen_28 ?_
      refine bo_iload_n hx dX11_listen_31 rfl 3 rfl ?_
      refine bo_aload_n hx dX11_listen_32 rfl 0 rfl ?_
      refine bo_iload_n hx dX11_listen_33 rfl 3 rfl ?_
      refine bo_aload_n hx dX11_listen_34 rfl 0 rfl ?_
      refine gf_X11_204 hx dX11_listen_35 ?_
      refine bo_goR (z := true) hx (fun rr hh => bo_runV (As := [.int w3, .int (σ 135 2)]) (S := [.int w3, .ref (bo_a x 162)]) hx dX11_listen_38 lk_X11_361 mi_X11_couldBe bo_o_135 rfl rfl (kX11_couldBe (bo_l x) (bo_g x) hx.inj σ w3 (σ 135 2) rr hh) ⟨by decide, by decide⟩ rfl rfl (Nat.le_of_ble_eq_true rfl)) (fun v1 hv1 => ?_)
      refine bo_zast hx bo_c_162 dX11_listen_41 (fun σ2 => ?_)
      refine bo_iload_n hx dX11_listen_42 rfl 2 rfl ?_
      refine bo_aload_n hx dX11_listen_43 rfl 0 rfl ?_
      refine gf_X11_92 hx dX11_listen_44 ?_
      refine bo_iload_n hx dX11_listen_47 rfl 3 rfl ?_
      refine bo_zald hx bo_c_162 dX11_listen_48 (fun v3 => ?_)
      refine bo_seq 57 (fun a => [(0, .ref (bo_a x 135)), (1, .int f1), (3, .int w3)]) (fun a => [.int a, .int w2]) (fun a => σ2) ?_ (fun a4 => ?_)
      · refine bo_if_eq hx 56 dX11_listen_49 (by decide) ?_ ?_
        · refine bo_iconst (v := 0) hx dX11_listen_56 (by decide) ?_
          refine bo_sub (L' := [(0, .ref (bo_a x 135)), (1, .int f1), (3, .int w3)]) [0, 1, 3] rfl ?_
          exact bo_arr (fun h => h)
        · refine bo_iconst (v := 1) hx dX11_listen_52 (by decide) ?_
          refine bo_goto hx 57 dX11_listen_53 (by decide) ?_
          refine bo_sub (L' := [(0, .ref (bo_a x 135)), (1, .int f1), (3, .int w3)]) [0, 1, 3] rfl ?_
          exact bo_arr (fun h => h)
      · refine bo_iadd hx dX11_listen_57 ?_
        refine bo_istore_n (L' := [(2, .int (w2 + a4)), (0, .ref (bo_a x 135)), (1, .int f1), (3, .int w3)]) hx dX11_listen_58 rfl (by decide) rfl ?_
        refine bo_iinc (L' := [(3, .int (w3 + 1)), (2, .int (w2 + a4)), (0, .ref (bo_a x 135)), (1, .int f1)]) (w := (w3 + 1)) hx dX11_listen_59 3 rfl rfl (by decide) rfl ?_
        refine bo_goto hx 17 dX11_listen_62 (by decide) ?_
        refine bo_sub (L' := [(0, .ref (bo_a x 135)), (1, .int f1), (2, .int (w2 + a4)), (3, .int (w3 + 1))]) [2, 3, 1, 0] rfl ?_
        exact ih (w2 + a4) (w3 + 1) σ2
theorem lX11_listen_L67 (x : bo_X) (hx : bo_OK x cX11_listen RX11 5 4 97)  : ∀ (n : Nat) (w1 : Int32) (w2 : Int32) (w3 : Int32) (σ : bo_M), bo_D x 67 [(0, .ref (bo_a x 135)), (1, .int w1), (2, .int w2), (3, .int w3)] [] σ (mX11_listen_L67 n w1 w2 w3 σ) (fun a => bo_N x 111 [(1, .int a.1)] [] a.2) := by
  intro n
  induction n with
  | zero => intro w1 w2 w3 σ; exact bo_none
  | succ n ih =>
    intro w1 w2 w3 σ
    rw [mX11_listen_L67]
    refine bo_iload_n hx dX11_listen_67 rfl 3 rfl ?_
    refine bo_bipush (v := 96) hx dX11_listen_68 (by decide) ?_
    refine bo_icmp_ge hx 111 dX11_listen_70 (by decide) ?_ ?_
    · refine bo_sub (L' := [(1, .int w1)]) [1] rfl ?_
      exact bo_arr (fun h => h)
    · refine bo_aload_n hx dX11_listen_73 rfl 0 rfl ?_
      refine bo_iload_n hx dX11_listen_74 rfl 3 rfl ?_
      refine bo_goW (z := false) hx (fun rr hh => bo_runV (As := [.int w3]) (S := []) hx dX11_listen_75 lk_X11_364 mi_X11_greatestPart bo_o_135 rfl rfl (kX11_greatestPart (bo_l x) (bo_g x) hx.inj σ w3 rr hh) ⟨by decide, by decide⟩ rfl rfl (Nat.le_of_ble_eq_true rfl)) (fun a6 ha6 => ?_)
      refine bo_istore (L' := [(4, .int a6.1), (0, .ref (bo_a x 135)), (1, .int w1), (2, .int w2), (3, .int w3)]) hx dX11_listen_78 (by decide) rfl ?_
      refine bo_iload hx dX11_listen_80 0 rfl ?_
      refine bo_iload_n hx dX11_listen_82 rfl 3 rfl ?_
      refine bo_seq 91 (fun a => [(0, .ref (bo_a x 135)), (2, .int w2), (3, .int w3), (4, .int a6.1)]) (fun a => [.int a]) (fun a => a6.2) ?_ (fun a7 => ?_)
      · refine bo_icmp_ge hx 90 dX11_listen_83 (by decide) ?_ ?_
        · refine bo_iload_n hx dX11_listen_90 rfl 2 rfl ?_
          refine bo_sub (L' := [(0, .ref (bo_a x 135)), (2, .int w2), (3, .int w3), (4, .int a6.1)]) [1, 3, 4, 0] rfl ?_
          exact bo_arr (fun h => h)
        · refine bo_iload_n hx dX11_listen_86 rfl 4 rfl ?_
          refine bo_goto hx 91 dX11_listen_87 (by decide) ?_
          refine bo_sub (L' := [(0, .ref (bo_a x 135)), (2, .int w2), (3, .int w3), (4, .int a6.1)]) [1, 3, 4, 0] rfl ?_
          exact bo_arr (fun h => h)
      · refine bo_istore_n (L' := [(1, .int a7), (0, .ref (bo_a x 135)), (2, .int w2), (3, .int w3), (4, .int a6.1)]) hx dX11_listen_91 rfl (by decide) rfl ?_
        refine bo_iload hx dX11_listen_92 4 rfl ?_
        refine bo_iload_n hx dX11_listen_94 rfl 2 rfl ?_
        refine bo_seq 104 (fun a => [(0, .ref (bo_a x 135)), (1, .int a7), (3, .int w3)]) (fun a => [.int a]) (fun a => a6.2) ?_ (fun a8 => ?_)
        · refine bo_icmp_ge hx 103 dX11_listen_95 (by decide) ?_ ?_
          · refine bo_iload_n hx dX11_listen_103 rfl 2 rfl ?_
            refine bo_sub (L' := [(0, .ref (bo_a x 135)), (1, .int a7), (3, .int w3)]) [1, 0, 3] rfl ?_
            exact bo_arr (fun h => h)
          · refine bo_iload hx dX11_listen_98 4 rfl ?_
            refine bo_goto hx 104 dX11_listen_100 (by decide) ?_
            refine bo_sub (L' := [(0, .ref (bo_a x 135)), (1, .int a7), (3, .int w3)]) [1, 0, 3] rfl ?_
            exact bo_arr (fun h => h)
        · refine bo_istore_n (L' := [(2, .int a8), (0, .ref (bo_a x 135)), (1, .int a7), (3, .int w3)]) hx dX11_listen_104 rfl (by decide) rfl ?_
          refine bo_iinc (L' := [(3, .int (w3 + 1)), (2, .int a8), (0, .ref (bo_a x 135)), (1, .int a7)]) (w := (w3 + 1)) hx dX11_listen_105 3 rfl rfl (by decide) rfl ?_
          refine bo_goto hx 67 dX11_listen_108 (by decide) ?_
          refine bo_sub (L' := [(0, .ref (bo_a x 135)), (1, .int a7), (2, .int a8), (3, .int (w3 + 1))]) [2, 3, 1, 0] rfl ?_
          exact ih a7 a8 (w3 + 1) a6.2
theorem bX11_listen (x : bo_X) (hx : bo_OK x cX11_listen RX11 5 4 97) (σ : bo_M) : bo_D x 0 [(0, .ref (bo_a x 135))] [] σ (mX11_listen σ) (bo_Rw x cX11_listen false) := by
  unfold mX11_listen
  refine bo_aload_n hx dX11_listen_0 rfl 0 rfl ?_
  refine gf_X11_111 hx dX11_listen_1 ?_
  refine bo_if_ne hx 11 dX11_listen_4 (by decide) ?_ ?_
  · refine bo_iconst (v := (-1)) hx dX11_listen_11 (by decide) ?_
    refine bo_istore_n (L' := [(1, .int (-1)), (0, .ref (bo_a x 135))]) hx dX11_listen_12 rfl (by decide) rfl ?_
    refine bo_iconst (v := 0) hx dX11_listen_13 (by decide) ?_
    refine bo_istore_n (L' := [(2, .int 0), (1, .int (-1)), (0, .ref (bo_a x 135))]) hx dX11_listen_14 rfl (by decide) rfl ?_
    refine bo_iconst (v := 0) hx dX11_listen_15 (by decide) ?_
    refine bo_istore_n (L' := [(3, .int 0), (2, .int 0), (1, .int (-1)), (0, .ref (bo_a x 135))]) hx dX11_listen_16 rfl (by decide) rfl ?_
    refine bo_sub (L' := [(0, .ref (bo_a x 135)), (1, .int (-1)), (2, .int 0), (3, .int 0)]) [3, 2, 1, 0] rfl ?_
    refine bo_seq 65 (fun a => [(0, .ref (bo_a x 135)), (1, .int (-1)), (2, .int a.1)]) (fun a => []) (fun a => a.2) (lX11_listen_L17 x hx (-1) bo_fuel 0 0 σ) (fun a5 => ?_)
    refine bo_iconst (v := 0) hx dX11_listen_65 (by decide) ?_
    refine bo_istore_n (L' := [(3, .int 0), (0, .ref (bo_a x 135)), (1, .int (-1)), (2, .int a5.1)]) hx dX11_listen_66 rfl (by decide) rfl ?_
    refine bo_sub (L' := [(0, .ref (bo_a x 135)), (1, .int (-1)), (2, .int a5.1), (3, .int 0)]) [1, 2, 3, 0] rfl ?_
    refine bo_seq 111 (fun a => [(1, .int a.1)]) (fun a => []) (fun a => a.2) (lX11_listen_L67 x hx bo_fuel (-1) a5.1 0 a5.2) (fun a9 => ?_)
    refine bo_iload_n hx dX11_listen_111 rfl 0 rfl ?_
    exact bo_retw dX11_listen_112 (fun h => by cases h)
  · refine bo_ldcw (v := (-1000000003)) hx dX11_listen_7 wc_X11_277 ?_
    exact bo_retw dX11_listen_10 (fun h => by cases h)
theorem kX11_listen (l : Launch) (g : bo_G) (hi : bo_inj g) (σ : bo_M) : bo_CW l g yX11_listen cX11_listen 5 (some .int) 4 97 [.ref (g.2.2 135)] σ false (mX11_listen σ) :=
  bo_metW rfl (Or.inl ⟨rfl, rfl⟩) (by decide) rfl hi (Nat.le_of_ble_eq_true rfl) (fun x e1 e2 hx => by subst e1; subst e2; exact bX11_listen x hx σ)
-- BellRopeModel.muffled
theorem dX11_muffled_0 : decode cX11_muffled 0 = .ok (.aload_n 0, 1) := by decide +kernel
theorem dX11_muffled_1 : decode cX11_muffled 1 = .ok (.getfield 111, 3) := by decide +kernel
theorem dX11_muffled_11 : decode cX11_muffled 11 = .ok (.iconst 0, 1) := by decide +kernel
theorem dX11_muffled_12 : decode cX11_muffled 12 = .ok (.istore_n 1, 1) := by decide +kernel
theorem dX11_muffled_13 : decode cX11_muffled 13 = .ok (.iconst 0, 1) := by decide +kernel
theorem dX11_muffled_14 : decode cX11_muffled 14 = .ok (.istore_n 2, 1) := by decide +kernel
theorem dX11_muffled_15 : decode cX11_muffled 15 = .ok (.iload_n 2, 1) := by decide +kernel
theorem dX11_muffled_16 : decode cX11_muffled 16 = .ok (.bipush 10, 2) := by decide +kernel
theorem dX11_muffled_21 : decode cX11_muffled 21 = .ok (.iload_n 1, 1) := by decide +kernel
theorem dX11_muffled_22 : decode cX11_muffled 22 = .ok (.aload_n 0, 1) := by decide +kernel
theorem dX11_muffled_23 : decode cX11_muffled 23 = .ok (.aload_n 0, 1) := by decide +kernel
theorem dX11_muffled_24 : decode cX11_muffled 24 = .ok (.invokevirtual 255, 3) := by decide +kernel
theorem dX11_muffled_27 : decode cX11_muffled 27 = .ok (.iload_n 2, 1) := by decide +kernel
theorem dX11_muffled_28 : decode cX11_muffled 28 = .ok (.invokevirtual 361, 3) := by decide +kernel
theorem dX11_muffled_40 : decode cX11_muffled 40 = .ok (.iconst 0, 1) := by decide +kernel
theorem dX11_muffled_34 : decode cX11_muffled 34 = .ok (.iconst 1, 1) := by decide +kernel
theorem dX11_muffled_35 : decode cX11_muffled 35 = .ok (.iload_n 2, 1) := by decide +kernel
theorem dX11_muffled_36 : decode cX11_muffled 36 = .ok (.ishl, 1) := by decide +kernel
theorem dX11_muffled_37 : decode cX11_muffled 37 = .ok (.goto 4, 3) := by decide +kernel
theorem dX11_muffled_31 : decode cX11_muffled 31 = .ok (.ifCond .eq 9, 3) := by decide +kernel
theorem dX11_muffled_41 : decode cX11_muffled 41 = .ok (.ior, 1) := by decide +kernel
theorem dX11_muffled_42 : decode cX11_muffled 42 = .ok (.istore_n 1, 1) := by decide +kernel
theorem dX11_muffled_43 : decode cX11_muffled 43 = .ok (.iinc 2 1, 3) := by decide +kernel
theorem dX11_muffled_46 : decode cX11_muffled 46 = .ok (.goto (-31), 3) := by decide +kernel
theorem dX11_muffled_18 : decode cX11_muffled 18 = .ok (.if_icmp .ge 31, 3) := by decide +kernel
theorem dX11_muffled_49 : decode cX11_muffled 49 = .ok (.iload_n 1, 1) := by decide +kernel
theorem dX11_muffled_50 : decode cX11_muffled 50 = .ok (.ireturn, 1) := by decide +kernel
theorem dX11_muffled_7 : decode cX11_muffled 7 = .ok (.ldc_w 277, 3) := by decide +kernel
theorem dX11_muffled_10 : decode cX11_muffled 10 = .ok (.ireturn, 1) := by decide +kernel
theorem dX11_muffled_4 : decode cX11_muffled 4 = .ok (.ifCond .ne 7, 3) := by decide +kernel
theorem lX11_muffled_L15 (x : bo_X) (hx : bo_OK x cX11_muffled RX11 3 4 97) (σ : bo_M) : ∀ (n : Nat) (w1 : Int32) (w2 : Int32), bo_D x 15 [(0, .ref (bo_a x 135)), (1, .int w1), (2, .int w2)] [] σ (mX11_muffled_L15 σ n w1 w2) (fun a => bo_N x 49 [(1, .int a)] [] σ) := by
  intro n
  induction n with
  | zero => intro w1 w2; exact bo_none
  | succ n ih =>
    intro w1 w2
    rw [mX11_muffled_L15]
    refine bo_iload_n hx dX11_muffled_15 rfl 2 rfl ?_
    refine bo_bipush (v := 10) hx dX11_muffled_16 (by decide) ?_
    refine bo_icmp_ge hx 49 dX11_muffled_18 (by decide) ?_ ?_
    · refine bo_sub (L' := [(1, .int w1)]) [1] rfl ?_
      exact bo_arr (fun h => h)
    · refine bo_iload_n hx dX11_muffled_21 rfl 1 rfl ?_
      refine bo_aload_n hx dX11_muffled_22 rfl 0 rfl ?_
      refine bo_aload_n hx dX11_muffled_23 rfl 0 rfl ?_
      refine bo_goR (z := false) hx (fun rr hh => bo_runV (As := []) (S := [.ref (bo_a x 135), .int w1]) hx dX11_muffled_24 lk_X11_255 mi_X11_whoIsIn bo_o_135 rfl rfl (kX11_whoIsIn (bo_l x) (bo_g x) hx.inj σ rr hh) ⟨by decide, by decide⟩ rfl rfl (Nat.le_of_ble_eq_true rfl)) (fun v1 hv1 => ?_)
      refine bo_iload_n hx dX11_muffled_27 rfl 2 rfl ?_
      refine bo_goR (z := true) hx (fun rr hh => bo_runV (As := [.int v1, .int w2]) (S := [.int w1]) hx dX11_muffled_28 lk_X11_361 mi_X11_couldBe bo_o_135 rfl rfl (kX11_couldBe (bo_l x) (bo_g x) hx.inj σ v1 w2 rr hh) ⟨by decide, by decide⟩ rfl rfl (Nat.le_of_ble_eq_true rfl)) (fun v2 hv2 => ?_)
      refine bo_seq 41 (fun a => [(0, .ref (bo_a x 135)), (2, .int w2)]) (fun a => [.int a, .int w1]) (fun a => σ) ?_ (fun a3 => ?_)
      · refine bo_if_eq hx 40 dX11_muffled_31 (by decide) ?_ ?_
        · refine bo_iconst (v := 0) hx dX11_muffled_40 (by decide) ?_
          refine bo_sub (L' := [(0, .ref (bo_a x 135)), (2, .int w2)]) [0, 2] rfl ?_
          exact bo_arr (fun h => h)
        · refine bo_iconst (v := 1) hx dX11_muffled_34 (by decide) ?_
          refine bo_iload_n hx dX11_muffled_35 rfl 2 rfl ?_
          refine bo_ishl hx dX11_muffled_36 ?_
          refine bo_goto hx 41 dX11_muffled_37 (by decide) ?_
          refine bo_sub (L' := [(0, .ref (bo_a x 135)), (2, .int w2)]) [0, 2] rfl ?_
          exact bo_arr (fun h => h)
      · refine bo_ior hx dX11_muffled_41 ?_
        refine bo_istore_n (L' := [(1, .int (w1 ||| a3)), (0, .ref (bo_a x 135)), (2, .int w2)]) hx dX11_muffled_42 rfl (by decide) rfl ?_
        refine bo_iinc (L' := [(2, .int (w2 + 1)), (1, .int (w1 ||| a3)), (0, .ref (bo_a x 135))]) (w := (w2 + 1)) hx dX11_muffled_43 2 rfl rfl (by decide) rfl ?_
        refine bo_goto hx 15 dX11_muffled_46 (by decide) ?_
        refine bo_sub (L' := [(0, .ref (bo_a x 135)), (1, .int (w1 ||| a3)), (2, .int (w2 + 1))]) [2, 1, 0] rfl ?_
        exact ih (w1 ||| a3) (w2 + 1)
theorem bX11_muffled (x : bo_X) (hx : bo_OK x cX11_muffled RX11 3 4 97) (σ : bo_M) : bo_D x 0 [(0, .ref (bo_a x 135))] [] σ (mX11_muffled σ) (bo_Ri x cX11_muffled σ false) := by
  unfold mX11_muffled
  refine bo_aload_n hx dX11_muffled_0 rfl 0 rfl ?_
  refine gf_X11_111 hx dX11_muffled_1 ?_
  refine bo_if_ne hx 11 dX11_muffled_4 (by decide) ?_ ?_
  · refine bo_iconst (v := 0) hx dX11_muffled_11 (by decide) ?_
    refine bo_istore_n (L' := [(1, .int 0), (0, .ref (bo_a x 135))]) hx dX11_muffled_12 rfl (by decide) rfl ?_
    refine bo_iconst (v := 0) hx dX11_muffled_13 (by decide) ?_
    refine bo_istore_n (L' := [(2, .int 0), (1, .int 0), (0, .ref (bo_a x 135))]) hx dX11_muffled_14 rfl (by decide) rfl ?_
    refine bo_sub (L' := [(0, .ref (bo_a x 135)), (1, .int 0), (2, .int 0)]) [2, 1, 0] rfl ?_
    refine bo_seq 49 (fun a => [(1, .int a)]) (fun a => []) (fun a => σ) (lX11_muffled_L15 x hx σ bo_fuel 0 0) (fun a4 => ?_)
    refine bo_iload_n hx dX11_muffled_49 rfl 0 rfl ?_
    exact bo_ret dX11_muffled_50 (fun h => by cases h)
  · refine bo_ldcw (v := (-1000000003)) hx dX11_muffled_7 wc_X11_277 ?_
    exact bo_ret dX11_muffled_10 (fun h => by cases h)
theorem kX11_muffled (l : Launch) (g : bo_G) (hi : bo_inj g) (σ : bo_M) : bo_CR l g yX11_muffled cX11_muffled 3 (some .int) 4 97 [.ref (g.2.2 135)] σ false (mX11_muffled σ) :=
  bo_metR rfl (Or.inl ⟨rfl, rfl⟩) (by decide) rfl hi (Nat.le_of_ble_eq_true rfl) (fun x e1 e2 hx => by subst e1; subst e2; exact bX11_muffled x hx σ)
-- BellRopeModel.write
theorem dX11_write_0 : decode cX11_write 0 = .ok (.aload_n 0, 1) := by decide +kernel
theorem dX11_write_1 : decode cX11_write 1 = .ok (.iload_n 1, 1) := by decide +kernel
theorem dX11_write_2 : decode cX11_write 2 = .ok (.invokevirtual 258, 3) := by decide +kernel
theorem dX11_write_12 : decode cX11_write 12 = .ok (.iload_n 2, 1) := by decide +kernel
theorem dX11_write_13 : decode cX11_write 13 = .ok (.i2l, 1) := by decide +kernel
theorem dX11_write_14 : decode cX11_write 14 = .ok (.lconst 0, 1) := by decide +kernel
theorem dX11_write_15 : decode cX11_write 15 = .ok (.ldc2_w 288, 3) := by decide +kernel
theorem dX11_write_18 : decode cX11_write 18 = .ok (.invokestatic 118, 3) := by decide +kernel
theorem dX11_write_27 : decode cX11_write 27 = .ok (.aload_n 0, 1) := by decide +kernel
theorem dX11_write_28 : decode cX11_write 28 = .ok (.getfield 229, 3) := by decide +kernel
theorem dX11_write_31 : decode cX11_write 31 = .ok (.bipush 15, 2) := by decide +kernel
theorem dX11_write_39 : decode cX11_write 39 = .ok (.aload_n 0, 1) := by decide +kernel
theorem dX11_write_40 : decode cX11_write 40 = .ok (.getfield 99, 3) := by decide +kernel
theorem dX11_write_43 : decode cX11_write 43 = .ok (.aload_n 0, 1) := by decide +kernel
theorem dX11_write_44 : decode cX11_write 44 = .ok (.getfield 229, 3) := by decide +kernel
theorem dX11_write_47 : decode cX11_write 47 = .ok (.iload_n 1, 1) := by decide +kernel
theorem dX11_write_48 : decode cX11_write 48 = .ok (.iastore, 1) := by decide +kernel
theorem dX11_write_49 : decode cX11_write 49 = .ok (.aload_n 0, 1) := by decide +kernel
theorem dX11_write_50 : decode cX11_write 50 = .ok (.getfield 102, 3) := by decide +kernel
theorem dX11_write_53 : decode cX11_write 53 = .ok (.aload_n 0, 1) := by decide +kernel
theorem dX11_write_54 : decode cX11_write 54 = .ok (.getfield 229, 3) := by decide +kernel
theorem dX11_write_57 : decode cX11_write 57 = .ok (.iload_n 2, 1) := by decide +kernel
theorem dX11_write_58 : decode cX11_write 58 = .ok (.iastore, 1) := by decide +kernel
theorem dX11_write_59 : decode cX11_write 59 = .ok (.aload_n 0, 1) := by decide +kernel
theorem dX11_write_60 : decode cX11_write 60 = .ok (.dup, 1) := by decide +kernel
theorem dX11_write_61 : decode cX11_write 61 = .ok (.getfield 229, 3) := by decide +kernel
theorem dX11_write_64 : decode cX11_write 64 = .ok (.iconst 1, 1) := by decide +kernel
theorem dX11_write_65 : decode cX11_write 65 = .ok (.iadd, 1) := by decide +kernel
theorem dX11_write_66 : decode cX11_write 66 = .ok (.putfield 229, 3) := by decide +kernel
theorem dX11_write_69 : decode cX11_write 69 = .ok (.aload_n 0, 1) := by decide +kernel
theorem dX11_write_70 : decode cX11_write 70 = .ok (.getfield 229, 3) := by decide +kernel
theorem dX11_write_73 : decode cX11_write 73 = .ok (.ireturn, 1) := by decide +kernel
theorem dX11_write_36 : decode cX11_write 36 = .ok (.ldc 131, 2) := by decide +kernel
theorem dX11_write_38 : decode cX11_write 38 = .ok (.ireturn, 1) := by decide +kernel
theorem dX11_write_33 : decode cX11_write 33 = .ok (.if_icmp .ne 6, 3) := by decide +kernel
theorem dX11_write_24 : decode cX11_write 24 = .ok (.ldc 127, 2) := by decide +kernel
theorem dX11_write_26 : decode cX11_write 26 = .ok (.ireturn, 1) := by decide +kernel
theorem dX11_write_21 : decode cX11_write 21 = .ok (.ifCond .ne 6, 3) := by decide +kernel
theorem dX11_write_8 : decode cX11_write 8 = .ok (.ldc_w 261, 3) := by decide +kernel
theorem dX11_write_11 : decode cX11_write 11 = .ok (.ireturn, 1) := by decide +kernel
theorem dX11_write_5 : decode cX11_write 5 = .ok (.ifCond .ne 7, 3) := by decide +kernel
theorem bX11_write (x : bo_X) (hx : bo_OK x cX11_write RX11 3 2 46) (σ : bo_M) (p1 : Int32) (p2 : Int32) : bo_D x 0 [(0, .ref (bo_a x 135)), (1, .int p1), (2, .int p2)] [] σ (mX11_write σ p1 p2) (bo_Rw x cX11_write false) := by
  unfold mX11_write
  refine bo_aload_n hx dX11_write_0 rfl 0 rfl ?_
  refine bo_iload_n hx dX11_write_1 rfl 1 rfl ?_
  refine bo_goR (z := true) hx (fun rr hh => bo_runV (As := [.int p1]) (S := []) hx dX11_write_2 lk_X11_258 mi_X11_isDrinker bo_o_135 rfl rfl (kX11_isDrinker (bo_l x) (bo_g x) hx.inj σ p1 rr hh) ⟨by decide, by decide⟩ rfl rfl (Nat.le_of_ble_eq_true rfl)) (fun v1 hv1 => ?_)
  refine bo_if_ne hx 12 dX11_write_5 (by decide) ?_ ?_
  · refine bo_iload_n hx dX11_write_12 rfl 2 rfl ?_
    refine bo_i2l hx dX11_write_13 ?_
    refine bo_lconst (v := 0) hx dX11_write_14 (by decide) ?_
    refine bo_ldc2 (v := 20) hx dX11_write_15 wl_X11_288 ?_
    refine bo_goR (z := true) hx (fun rr hh => bo_runS (As := [.long (Int32.toInt64 p2), .long 0, .long 20]) (S := []) hx dX11_write_18 lk_X11_118 ms_X11_in (kX11_in (bo_l x) (bo_g x) hx.inj σ (Int32.toInt64 p2) 0 20 rr hh) ⟨by decide, by decide⟩ rfl rfl (Nat.le_of_ble_eq_true rfl)) (fun v2 hv2 => ?_)
    refine bo_if_ne hx 27 dX11_write_21 (by decide) ?_ ?_
    · refine bo_aload_n hx dX11_write_27 rfl 0 rfl ?_
      refine gf_X11_229 hx dX11_write_28 ?_
      refine bo_bipush (v := 15) hx dX11_write_31 (by decide) ?_
      refine bo_icmp_ne hx 39 dX11_write_33 (by decide) ?_ ?_
      · refine bo_aload_n hx dX11_write_39 rfl 0 rfl ?_
        refine gf_X11_99 hx dX11_write_40 ?_
        refine bo_aload_n hx dX11_write_43 rfl 0 rfl ?_
        refine gf_X11_229 hx dX11_write_44 ?_
        refine bo_iload_n hx dX11_write_47 rfl 1 rfl ?_
        refine bo_iast hx bo_c_164 dX11_write_48 (fun σ3 => ?_)
        refine bo_aload_n hx dX11_write_49 rfl 0 rfl ?_
        refine gf_X11_102 hx dX11_write_50 ?_
        refine bo_aload_n hx dX11_write_53 rfl 0 rfl ?_
        refine gf_X11_229 hx dX11_write_54 ?_
        refine bo_iload_n hx dX11_write_57 rfl 2 rfl ?_
        refine bo_iast hx bo_c_165 dX11_write_58 (fun σ4 => ?_)
        refine bo_aload_n hx dX11_write_59 rfl 0 rfl ?_
        refine bo_dup hx dX11_write_60 rfl ?_
        refine gf_X11_229 hx dX11_write_61 ?_
        refine bo_iconst (v := 1) hx dX11_write_64 (by decide) ?_
        refine bo_iadd hx dX11_write_65 ?_
        refine pf_X11_229 hx dX11_write_66 (fun σ5 => ?_)
        refine bo_aload_n hx dX11_write_69 rfl 0 rfl ?_
        refine gf_X11_229 hx dX11_write_70 ?_
        exact bo_retw dX11_write_73 (fun h => by cases h)
      · refine bo_ldc (v := (-1000000004)) hx dX11_write_36 wc_X11_131 ?_
        exact bo_retw dX11_write_38 (fun h => by cases h)
    · refine bo_ldc (v := (-1000000002)) hx dX11_write_24 wc_X11_127 ?_
      exact bo_retw dX11_write_26 (fun h => by cases h)
  · refine bo_ldcw (v := (-1000000001)) hx dX11_write_8 wc_X11_261 ?_
    exact bo_retw dX11_write_11 (fun h => by cases h)
theorem kX11_write (l : Launch) (g : bo_G) (hi : bo_inj g) (σ : bo_M) (p1 : Int32) (p2 : Int32) : bo_CW l g yX11_write cX11_write 3 (some .int) 2 46 [.ref (g.2.2 135), .int p1, .int p2] σ false (mX11_write σ p1 p2) :=
  bo_metW rfl (Or.inl ⟨rfl, rfl⟩) (by decide) rfl hi (Nat.le_of_ble_eq_true rfl) (fun x e1 e2 hx => by subst e1; subst e2; exact bX11_write x hx σ p1 p2)
-- BellRopeModel.tear
theorem dX11_tear_0 : decode cX11_tear 0 = .ok (.aload_n 0, 1) := by decide +kernel
theorem dX11_tear_1 : decode cX11_tear 1 = .ok (.getfield 226, 3) := by decide +kernel
theorem dX11_tear_4 : decode cX11_tear 4 = .ok (.aload_n 0, 1) := by decide +kernel
theorem dX11_tear_5 : decode cX11_tear 5 = .ok (.getfield 229, 3) := by decide +kernel
theorem dX11_tear_8 : decode cX11_tear 8 = .ok (.iadd, 1) := by decide +kernel
theorem dX11_tear_9 : decode cX11_tear 9 = .ok (.istore_n 1, 1) := by decide +kernel
theorem dX11_tear_10 : decode cX11_tear 10 = .ok (.aload_n 0, 1) := by decide +kernel
theorem dX11_tear_11 : decode cX11_tear 11 = .ok (.iconst 0, 1) := by decide +kernel
theorem dX11_tear_12 : decode cX11_tear 12 = .ok (.putfield 226, 3) := by decide +kernel
theorem dX11_tear_15 : decode cX11_tear 15 = .ok (.aload_n 0, 1) := by decide +kernel
theorem dX11_tear_16 : decode cX11_tear 16 = .ok (.iconst 0, 1) := by decide +kernel
theorem dX11_tear_17 : decode cX11_tear 17 = .ok (.putfield 229, 3) := by decide +kernel
theorem dX11_tear_20 : decode cX11_tear 20 = .ok (.iload_n 1, 1) := by decide +kernel
theorem dX11_tear_21 : decode cX11_tear 21 = .ok (.ireturn, 1) := by decide +kernel
theorem bX11_tear (x : bo_X) (hx : bo_OK x cX11_tear RX11 2 0 0) (σ : bo_M) : bo_D x 0 [(0, .ref (bo_a x 135))] [] σ (mX11_tear σ) (bo_Rw x cX11_tear false) := by
  unfold mX11_tear
  refine bo_aload_n hx dX11_tear_0 rfl 0 rfl ?_
  refine gf_X11_226 hx dX11_tear_1 ?_
  refine bo_aload_n hx dX11_tear_4 rfl 0 rfl ?_
  refine gf_X11_229 hx dX11_tear_5 ?_
  refine bo_iadd hx dX11_tear_8 ?_
  refine bo_istore_n (L' := [(1, .int ((σ 135 44) + (σ 135 49))), (0, .ref (bo_a x 135))]) hx dX11_tear_9 rfl (by decide) rfl ?_
  refine bo_aload_n hx dX11_tear_10 rfl 1 rfl ?_
  refine bo_iconst (v := 0) hx dX11_tear_11 (by decide) ?_
  refine pf_X11_226 hx dX11_tear_12 (fun σ1 => ?_)
  refine bo_aload_n hx dX11_tear_15 rfl 1 rfl ?_
  refine bo_iconst (v := 0) hx dX11_tear_16 (by decide) ?_
  refine pf_X11_229 hx dX11_tear_17 (fun σ2 => ?_)
  refine bo_iload_n hx dX11_tear_20 rfl 0 rfl ?_
  exact bo_retw dX11_tear_21 (fun h => by cases h)
theorem kX11_tear (l : Launch) (g : bo_G) (hi : bo_inj g) (σ : bo_M) : bo_CW l g yX11_tear cX11_tear 2 (some .int) 0 0 [.ref (g.2.2 135)] σ false (mX11_tear σ) :=
  bo_metW rfl (Or.inl ⟨rfl, rfl⟩) (by decide) rfl hi (Nat.le_of_ble_eq_true rfl) (fun x e1 e2 hx => by subst e1; subst e2; exact bX11_tear x hx σ)
-- BellRopeModel.judge
theorem dX11_judge_0 : decode cX11_judge 0 = .ok (.iconst 0, 1) := by decide +kernel
theorem dX11_judge_1 : decode cX11_judge 1 = .ok (.istore_n 1, 1) := by decide +kernel
theorem dX11_judge_2 : decode cX11_judge 2 = .ok (.iload_n 1, 1) := by decide +kernel
theorem dX11_judge_3 : decode cX11_judge 3 = .ok (.aload_n 0, 1) := by decide +kernel
theorem dX11_judge_4 : decode cX11_judge 4 = .ok (.getfield 229, 3) := by decide +kernel
theorem dX11_judge_41 : decode cX11_judge 41 = .ok (.iconst (-1), 1) := by decide +kernel
theorem dX11_judge_42 : decode cX11_judge 42 = .ok (.ireturn, 1) := by decide +kernel
theorem dX11_judge_10 : decode cX11_judge 10 = .ok (.aload_n 0, 1) := by decide +kernel
theorem dX11_judge_11 : decode cX11_judge 11 = .ok (.getfield 34, 3) := by decide +kernel
theorem dX11_judge_14 : decode cX11_judge 14 = .ok (.bipush 7, 2) := by decide +kernel
theorem dX11_judge_16 : decode cX11_judge 16 = .ok (.aload_n 0, 1) := by decide +kernel
theorem dX11_judge_17 : decode cX11_judge 17 = .ok (.getfield 99, 3) := by decide +kernel
theorem dX11_judge_20 : decode cX11_judge 20 = .ok (.iload_n 1, 1) := by decide +kernel
theorem dX11_judge_21 : decode cX11_judge 21 = .ok (.iaload, 1) := by decide +kernel
theorem dX11_judge_22 : decode cX11_judge 22 = .ok (.iadd, 1) := by decide +kernel
theorem dX11_judge_23 : decode cX11_judge 23 = .ok (.iaload, 1) := by decide +kernel
theorem dX11_judge_24 : decode cX11_judge 24 = .ok (.aload_n 0, 1) := by decide +kernel
theorem dX11_judge_25 : decode cX11_judge 25 = .ok (.getfield 102, 3) := by decide +kernel
theorem dX11_judge_28 : decode cX11_judge 28 = .ok (.iload_n 1, 1) := by decide +kernel
theorem dX11_judge_29 : decode cX11_judge 29 = .ok (.iaload, 1) := by decide +kernel
theorem dX11_judge_35 : decode cX11_judge 35 = .ok (.iinc 1 1, 3) := by decide +kernel
theorem dX11_judge_38 : decode cX11_judge 38 = .ok (.goto (-36), 3) := by decide +kernel
theorem dX11_judge_33 : decode cX11_judge 33 = .ok (.iload_n 1, 1) := by decide +kernel
theorem dX11_judge_34 : decode cX11_judge 34 = .ok (.ireturn, 1) := by decide +kernel
theorem dX11_judge_30 : decode cX11_judge 30 = .ok (.if_icmp .eq 5, 3) := by decide +kernel
theorem dX11_judge_7 : decode cX11_judge 7 = .ok (.if_icmp .ge 34, 3) := by decide +kernel
theorem lX11_judge_L2 (x : bo_X) (hx : bo_OK x cX11_judge RX11 2 0 0) (σ : bo_M) : ∀ (n : Nat) (w1 : Int32), bo_D x 2 [(0, .ref (bo_a x 135)), (1, .int w1)] [] σ (mX11_judge_L2 σ n w1) (bo_Ri x cX11_judge σ false) := by
  intro n
  induction n with
  | zero => intro w1; exact bo_none
  | succ n ih =>
    intro w1
    rw [mX11_judge_L2]
    refine bo_iload_n hx dX11_judge_2 rfl 1 rfl ?_
    refine bo_aload_n hx dX11_judge_3 rfl 0 rfl ?_
    refine gf_X11_229 hx dX11_judge_4 ?_
    refine bo_icmp_ge hx 41 dX11_judge_7 (by decide) ?_ ?_
    · refine bo_iconst (v := (-1)) hx dX11_judge_41 (by decide) ?_
      exact bo_ret dX11_judge_42 (fun h => by cases h)
    · refine bo_aload_n hx dX11_judge_10 rfl 0 rfl ?_
      refine gf_X11_34 hx dX11_judge_11 ?_
      refine bo_bipush (v := 7) hx dX11_judge_14 (by decide) ?_
      refine bo_aload_n hx dX11_judge_16 rfl 0 rfl ?_
      refine gf_X11_99 hx dX11_judge_17 ?_
      refine bo_iload_n hx dX11_judge_20 rfl 1 rfl ?_
      refine bo_iald hx bo_c_164 dX11_judge_21 (fun v1 => ?_)
      refine bo_iadd hx dX11_judge_22 ?_
      refine bo_iald hx bo_c_144 dX11_judge_23 (fun v2 => ?_)
      refine bo_aload_n hx dX11_judge_24 rfl 0 rfl ?_
      refine gf_X11_102 hx dX11_judge_25 ?_
      refine bo_iload_n hx dX11_judge_28 rfl 1 rfl ?_
      refine bo_iald hx bo_c_165 dX11_judge_29 (fun v3 => ?_)
      refine bo_icmp_eq hx 35 dX11_judge_30 (by decide) ?_ ?_
      · refine bo_iinc (L' := [(1, .int (w1 + 1)), (0, .ref (bo_a x 135))]) (w := (w1 + 1)) hx dX11_judge_35 1 rfl rfl (by decide) rfl ?_
        refine bo_goto hx 2 dX11_judge_38 (by decide) ?_
        refine bo_sub (L' := [(0, .ref (bo_a x 135)), (1, .int (w1 + 1))]) [1, 0] rfl ?_
        exact ih (w1 + 1)
      · refine bo_iload_n hx dX11_judge_33 rfl 1 rfl ?_
        exact bo_ret dX11_judge_34 (fun h => by cases h)
theorem bX11_judge (x : bo_X) (hx : bo_OK x cX11_judge RX11 2 0 0) (σ : bo_M) : bo_D x 0 [(0, .ref (bo_a x 135))] [] σ (mX11_judge σ) (bo_Ri x cX11_judge σ false) := by
  unfold mX11_judge
  refine bo_iconst (v := 0) hx dX11_judge_0 (by decide) ?_
  refine bo_istore_n (L' := [(1, .int 0), (0, .ref (bo_a x 135))]) hx dX11_judge_1 rfl (by decide) rfl ?_
  refine bo_sub (L' := [(0, .ref (bo_a x 135)), (1, .int 0)]) [1, 0] rfl ?_
  exact lX11_judge_L2 x hx σ bo_fuel 0
theorem kX11_judge (l : Launch) (g : bo_G) (hi : bo_inj g) (σ : bo_M) : bo_CR l g yX11_judge cX11_judge 2 (some .int) 0 0 [.ref (g.2.2 135)] σ false (mX11_judge σ) :=
  bo_metR rfl (Or.inl ⟨rfl, rfl⟩) (by decide) rfl hi (Nat.le_of_ble_eq_true rfl) (fun x e1 e2 hx => by subst e1; subst e2; exact bX11_judge x hx σ)
-- BellRopeModel.seed
theorem dX11_seed_0 : decode cX11_seed 0 = .ok (.iload_n 1, 1) := by decide +kernel
theorem dX11_seed_7 : decode cX11_seed 7 = .ok (.aload_n 0, 1) := by decide +kernel
theorem dX11_seed_8 : decode cX11_seed 8 = .ok (.getfield 294, 3) := by decide +kernel
theorem dX11_seed_11 : decode cX11_seed 11 = .ok (.istore_n 2, 1) := by decide +kernel
theorem dX11_seed_12 : decode cX11_seed 12 = .ok (.aload_n 0, 1) := by decide +kernel
theorem dX11_seed_13 : decode cX11_seed 13 = .ok (.iload_n 1, 1) := by decide +kernel
theorem dX11_seed_14 : decode cX11_seed 14 = .ok (.putfield 294, 3) := by decide +kernel
theorem dX11_seed_17 : decode cX11_seed 17 = .ok (.iload_n 2, 1) := by decide +kernel
theorem dX11_seed_18 : decode cX11_seed 18 = .ok (.ireturn, 1) := by decide +kernel
theorem dX11_seed_4 : decode cX11_seed 4 = .ok (.ldc 127, 2) := by decide +kernel
theorem dX11_seed_6 : decode cX11_seed 6 = .ok (.ireturn, 1) := by decide +kernel
theorem dX11_seed_1 : decode cX11_seed 1 = .ok (.ifCond .ge 6, 3) := by decide +kernel
theorem bX11_seed (x : bo_X) (hx : bo_OK x cX11_seed RX11 3 0 0) (σ : bo_M) (p1 : Int32) : bo_D x 0 [(0, .ref (bo_a x 135)), (1, .int p1)] [] σ (mX11_seed σ p1) (bo_Rw x cX11_seed false) := by
  unfold mX11_seed
  refine bo_iload_n hx dX11_seed_0 rfl 1 rfl ?_
  refine bo_if_ge hx 7 dX11_seed_1 (by decide) ?_ ?_
  · refine bo_aload_n hx dX11_seed_7 rfl 0 rfl ?_
    refine gf_X11_294 hx dX11_seed_8 ?_
    refine bo_istore_n (L' := [(2, .int (σ 135 17)), (0, .ref (bo_a x 135)), (1, .int p1)]) hx dX11_seed_11 rfl (by decide) rfl ?_
    refine bo_aload_n hx dX11_seed_12 rfl 1 rfl ?_
    refine bo_iload_n hx dX11_seed_13 rfl 2 rfl ?_
    refine pf_X11_294 hx dX11_seed_14 (fun σ1 => ?_)
    refine bo_iload_n hx dX11_seed_17 rfl 0 rfl ?_
    exact bo_retw dX11_seed_18 (fun h => by cases h)
  · refine bo_ldc (v := (-1000000002)) hx dX11_seed_4 wc_X11_127 ?_
    exact bo_retw dX11_seed_6 (fun h => by cases h)
theorem kX11_seed (l : Launch) (g : bo_G) (hi : bo_inj g) (σ : bo_M) (p1 : Int32) : bo_CW l g yX11_seed cX11_seed 3 (some .int) 0 0 [.ref (g.2.2 135), .int p1] σ false (mX11_seed σ p1) :=
  bo_metW rfl (Or.inl ⟨rfl, rfl⟩) (by decide) rfl hi (Nat.le_of_ble_eq_true rfl) (fun x e1 e2 hx => by subst e1; subst e2; exact bX11_seed x hx σ p1)
-- BellRopeModel.keep
theorem dX11_keep_0 : decode cX11_keep 0 = .ok (.iload_n 1, 1) := by decide +kernel
theorem dX11_keep_1 : decode cX11_keep 1 = .ok (.i2l, 1) := by decide +kernel
theorem dX11_keep_2 : decode cX11_keep 2 = .ok (.lconst 0, 1) := by decide +kernel
theorem dX11_keep_3 : decode cX11_keep 3 = .ok (.lconst 1, 1) := by decide +kernel
theorem dX11_keep_4 : decode cX11_keep 4 = .ok (.invokestatic 118, 3) := by decide +kernel
theorem dX11_keep_14 : decode cX11_keep 14 = .ok (.iconst 0, 1) := by decide +kernel
theorem dX11_keep_15 : decode cX11_keep 15 = .ok (.istore_n 2, 1) := by decide +kernel
theorem dX11_keep_16 : decode cX11_keep 16 = .ok (.iload_n 2, 1) := by decide +kernel
theorem dX11_keep_17 : decode cX11_keep 17 = .ok (.bipush 107, 2) := by decide +kernel
theorem dX11_keep_22 : decode cX11_keep 22 = .ok (.aload_n 0, 1) := by decide +kernel
theorem dX11_keep_23 : decode cX11_keep 23 = .ok (.getfield 105, 3) := by decide +kernel
theorem dX11_keep_26 : decode cX11_keep 26 = .ok (.bipush 108, 2) := by decide +kernel
theorem dX11_keep_28 : decode cX11_keep 28 = .ok (.iload_n 1, 1) := by decide +kernel
theorem dX11_keep_29 : decode cX11_keep 29 = .ok (.imul, 1) := by decide +kernel
theorem dX11_keep_30 : decode cX11_keep 30 = .ok (.iload_n 2, 1) := by decide +kernel
theorem dX11_keep_31 : decode cX11_keep 31 = .ok (.iadd, 1) := by decide +kernel
theorem dX11_keep_32 : decode cX11_keep 32 = .ok (.aload_n 0, 1) := by decide +kernel
theorem dX11_keep_33 : decode cX11_keep 33 = .ok (.getfield 34, 3) := by decide +kernel
theorem dX11_keep_36 : decode cX11_keep 36 = .ok (.iload_n 2, 1) := by decide +kernel
theorem dX11_keep_37 : decode cX11_keep 37 = .ok (.iaload, 1) := by decide +kernel
theorem dX11_keep_38 : decode cX11_keep 38 = .ok (.iastore, 1) := by decide +kernel
theorem dX11_keep_39 : decode cX11_keep 39 = .ok (.iinc 2 1, 3) := by decide +kernel
theorem dX11_keep_42 : decode cX11_keep 42 = .ok (.goto (-26), 3) := by decide +kernel
theorem dX11_keep_19 : decode cX11_keep 19 = .ok (.if_icmp .ge 26, 3) := by decide +kernel
theorem dX11_keep_45 : decode cX11_keep 45 = .ok (.aload_n 0, 1) := by decide +kernel
theorem dX11_keep_46 : decode cX11_keep 46 = .ok (.getfield 105, 3) := by decide +kernel
theorem dX11_keep_49 : decode cX11_keep 49 = .ok (.bipush 108, 2) := by decide +kernel
theorem dX11_keep_51 : decode cX11_keep 51 = .ok (.iload_n 1, 1) := by decide +kernel
theorem dX11_keep_52 : decode cX11_keep 52 = .ok (.imul, 1) := by decide +kernel
theorem dX11_keep_53 : decode cX11_keep 53 = .ok (.bipush 107, 2) := by decide +kernel
theorem dX11_keep_55 : decode cX11_keep 55 = .ok (.iadd, 1) := by decide +kernel
theorem dX11_keep_56 : decode cX11_keep 56 = .ok (.aload_n 0, 1) := by decide +kernel
theorem dX11_keep_57 : decode cX11_keep 57 = .ok (.getfield 294, 3) := by decide +kernel
theorem dX11_keep_60 : decode cX11_keep 60 = .ok (.iastore, 1) := by decide +kernel
theorem dX11_keep_61 : decode cX11_keep 61 = .ok (.aload_n 0, 1) := by decide +kernel
theorem dX11_keep_62 : decode cX11_keep 62 = .ok (.getfield 108, 3) := by decide +kernel
theorem dX11_keep_65 : decode cX11_keep 65 = .ok (.iload_n 1, 1) := by decide +kernel
theorem dX11_keep_66 : decode cX11_keep 66 = .ok (.iconst 1, 1) := by decide +kernel
theorem dX11_keep_67 : decode cX11_keep 67 = .ok (.bastore, 1) := by decide +kernel
theorem dX11_keep_68 : decode cX11_keep 68 = .ok (.aload_n 0, 1) := by decide +kernel
theorem dX11_keep_69 : decode cX11_keep 69 = .ok (.iconst 0, 1) := by decide +kernel
theorem dX11_keep_70 : decode cX11_keep 70 = .ok (.putfield 232, 3) := by decide +kernel
theorem dX11_keep_73 : decode cX11_keep 73 = .ok (.iconst 1, 1) := by decide +kernel
theorem dX11_keep_74 : decode cX11_keep 74 = .ok (.ireturn, 1) := by decide +kernel
theorem dX11_keep_10 : decode cX11_keep 10 = .ok (.ldc_w 261, 3) := by decide +kernel
theorem dX11_keep_13 : decode cX11_keep 13 = .ok (.ireturn, 1) := by decide +kernel
theorem dX11_keep_7 : decode cX11_keep 7 = .ok (.ifCond .ne 7, 3) := by decide +kernel
theorem lX11_keep_L16 (x : bo_X) (hx : bo_OK x cX11_keep RX11 3 1 25) (f1 : Int32) : ∀ (n : Nat) (w2 : Int32) (σ : bo_M), bo_D x 16 [(0, .ref (bo_a x 135)), (1, .int f1), (2, .int w2)] [] σ (mX11_keep_L16 f1 n w2 σ) (fun a => bo_N x 45 [(0, .ref (bo_a x 135)), (1, .int f1)] [] a) := by
  intro n
  induction n with
  | zero => intro w2 σ; exact bo_none
  | succ n ih =>
    intro w2 σ
    rw [mX11_keep_L16]
    refine bo_iload_n hx dX11_keep_16 rfl 2 rfl ?_
    refine bo_bipush (v := 107) hx dX11_keep_17 (by decide) ?_
    refine bo_icmp_ge hx 45 dX11_keep_19 (by decide) ?_ ?_
    · refine bo_sub (L' := [(0, .ref (bo_a x 135)), (1, .int f1)]) [0, 1] rfl ?_
      exact bo_arr (fun h => h)
    · refine bo_aload_n hx dX11_keep_22 rfl 0 rfl ?_
      refine gf_X11_105 hx dX11_keep_23 ?_
      refine bo_bipush (v := 108) hx dX11_keep_26 (by decide) ?_
      refine bo_iload_n hx dX11_keep_28 rfl 1 rfl ?_
      refine bo_imul hx dX11_keep_29 ?_
      refine bo_iload_n hx dX11_keep_30 rfl 2 rfl ?_
      refine bo_iadd hx dX11_keep_31 ?_
      refine bo_aload_n hx dX11_keep_32 rfl 0 rfl ?_
      refine gf_X11_34 hx dX11_keep_33 ?_
      refine bo_iload_n hx dX11_keep_36 rfl 2 rfl ?_
      refine bo_iald hx bo_c_144 dX11_keep_37 (fun v2 => ?_)
      refine bo_iast hx bo_c_166 dX11_keep_38 (fun σ3 => ?_)
      refine bo_iinc (L' := [(2, .int (w2 + 1)), (0, .ref (bo_a x 135)), (1, .int f1)]) (w := (w2 + 1)) hx dX11_keep_39 2 rfl rfl (by decide) rfl ?_
      refine bo_goto hx 16 dX11_keep_42 (by decide) ?_
      refine bo_sub (L' := [(0, .ref (bo_a x 135)), (1, .int f1), (2, .int (w2 + 1))]) [1, 2, 0] rfl ?_
      exact ih (w2 + 1) σ3
theorem bX11_keep (x : bo_X) (hx : bo_OK x cX11_keep RX11 3 1 25) (σ : bo_M) (p1 : Int32) : bo_D x 0 [(0, .ref (bo_a x 135)), (1, .int p1)] [] σ (mX11_keep σ p1) (bo_Rw x cX11_keep false) := by
  unfold mX11_keep
  refine bo_iload_n hx dX11_keep_0 rfl 1 rfl ?_
  refine bo_i2l hx dX11_keep_1 ?_
  refine bo_lconst (v := 0) hx dX11_keep_2 (by decide) ?_
  refine bo_lconst (v := 1) hx dX11_keep_3 (by decide) ?_
  refine bo_goR (z := true) hx (fun rr hh => bo_runS (As := [.long (Int32.toInt64 p1), .long 0, .long 1]) (S := []) hx dX11_keep_4 lk_X11_118 ms_X11_in (kX11_in (bo_l x) (bo_g x) hx.inj σ (Int32.toInt64 p1) 0 1 rr hh) ⟨by decide, by decide⟩ rfl rfl (Nat.le_of_ble_eq_true rfl)) (fun v1 hv1 => ?_)
  refine bo_if_ne hx 14 dX11_keep_7 (by decide) ?_ ?_
  · refine bo_iconst (v := 0) hx dX11_keep_14 (by decide) ?_
    refine bo_istore_n (L' := [(2, .int 0), (0, .ref (bo_a x 135)), (1, .int p1)]) hx dX11_keep_15 rfl (by decide) rfl ?_
    refine bo_sub (L' := [(0, .ref (bo_a x 135)), (1, .int p1), (2, .int 0)]) [1, 2, 0] rfl ?_
    refine bo_seq 45 (fun a => [(0, .ref (bo_a x 135)), (1, .int p1)]) (fun a => []) (fun a => a) (lX11_keep_L16 x hx p1 bo_fuel 0 σ) (fun a4 => ?_)
    refine bo_aload_n hx dX11_keep_45 rfl 0 rfl ?_
    refine gf_X11_105 hx dX11_keep_46 ?_
    refine bo_bipush (v := 108) hx dX11_keep_49 (by decide) ?_
    refine bo_iload_n hx dX11_keep_51 rfl 1 rfl ?_
    refine bo_imul hx dX11_keep_52 ?_
    refine bo_bipush (v := 107) hx dX11_keep_53 (by decide) ?_
    refine bo_iadd hx dX11_keep_55 ?_
    refine bo_aload_n hx dX11_keep_56 rfl 0 rfl ?_
    refine gf_X11_294 hx dX11_keep_57 ?_
    refine bo_iast hx bo_c_166 dX11_keep_60 (fun σ5 => ?_)
    refine bo_aload_n hx dX11_keep_61 rfl 0 rfl ?_
    refine gf_X11_108 hx dX11_keep_62 ?_
    refine bo_iload_n hx dX11_keep_65 rfl 1 rfl ?_
    refine bo_iconst (v := 1) hx dX11_keep_66 (by decide) ?_
    refine bo_zast hx bo_c_167 dX11_keep_67 (fun σ6 => ?_)
    refine bo_aload_n hx dX11_keep_68 rfl 0 rfl ?_
    refine bo_iconst (v := 0) hx dX11_keep_69 (by decide) ?_
    refine pf_X11_232 hx dX11_keep_70 (fun σ7 => ?_)
    refine bo_iconst (v := 1) hx dX11_keep_73 (by decide) ?_
    exact bo_retw dX11_keep_74 (fun h => by cases h)
  · refine bo_ldcw (v := (-1000000001)) hx dX11_keep_10 wc_X11_261 ?_
    exact bo_retw dX11_keep_13 (fun h => by cases h)
theorem kX11_keep (l : Launch) (g : bo_G) (hi : bo_inj g) (σ : bo_M) (p1 : Int32) : bo_CW l g yX11_keep cX11_keep 3 (some .int) 1 25 [.ref (g.2.2 135), .int p1] σ false (mX11_keep σ p1) :=
  bo_metW rfl (Or.inl ⟨rfl, rfl⟩) (by decide) rfl hi (Nat.le_of_ble_eq_true rfl) (fun x e1 e2 hx => by subst e1; subst e2; exact bX11_keep x hx σ p1)
-- BellRopeModel.goBack
theorem dX11_goBack_0 : decode cX11_goBack 0 = .ok (.iload_n 1, 1) := by decide +kernel
theorem dX11_goBack_1 : decode cX11_goBack 1 = .ok (.i2l, 1) := by decide +kernel
theorem dX11_goBack_2 : decode cX11_goBack 2 = .ok (.lconst 0, 1) := by decide +kernel
theorem dX11_goBack_3 : decode cX11_goBack 3 = .ok (.lconst 1, 1) := by decide +kernel
theorem dX11_goBack_4 : decode cX11_goBack 4 = .ok (.invokestatic 118, 3) := by decide +kernel
theorem dX11_goBack_14 : decode cX11_goBack 14 = .ok (.aload_n 0, 1) := by decide +kernel
theorem dX11_goBack_15 : decode cX11_goBack 15 = .ok (.getfield 108, 3) := by decide +kernel
theorem dX11_goBack_18 : decode cX11_goBack 18 = .ok (.iload_n 1, 1) := by decide +kernel
theorem dX11_goBack_19 : decode cX11_goBack 19 = .ok (.baload, 1) := by decide +kernel
theorem dX11_goBack_27 : decode cX11_goBack 27 = .ok (.iconst 0, 1) := by decide +kernel
theorem dX11_goBack_28 : decode cX11_goBack 28 = .ok (.istore_n 2, 1) := by decide +kernel
theorem dX11_goBack_29 : decode cX11_goBack 29 = .ok (.iload_n 2, 1) := by decide +kernel
theorem dX11_goBack_30 : decode cX11_goBack 30 = .ok (.bipush 107, 2) := by decide +kernel
theorem dX11_goBack_35 : decode cX11_goBack 35 = .ok (.aload_n 0, 1) := by decide +kernel
theorem dX11_goBack_36 : decode cX11_goBack 36 = .ok (.getfield 34, 3) := by decide +kernel
theorem dX11_goBack_39 : decode cX11_goBack 39 = .ok (.iload_n 2, 1) := by decide +kernel
theorem dX11_goBack_40 : decode cX11_goBack 40 = .ok (.aload_n 0, 1) := by decide +kernel
theorem dX11_goBack_41 : decode cX11_goBack 41 = .ok (.getfield 105, 3) := by decide +kernel
theorem dX11_goBack_44 : decode cX11_goBack 44 = .ok (.bipush 108, 2) := by decide +kernel
theorem dX11_goBack_46 : decode cX11_goBack 46 = .ok (.iload_n 1, 1) := by decide +kernel
theorem dX11_goBack_47 : decode cX11_goBack 47 = .ok (.imul, 1) := by decide +kernel
theorem dX11_goBack_48 : decode cX11_goBack 48 = .ok (.iload_n 2, 1) := by decide +kernel
theorem dX11_goBack_49 : decode cX11_goBack 49 = .ok (.iadd, 1) := by decide +kernel
theorem dX11_goBack_50 : decode cX11_goBack 50 = .ok (.iaload, 1) := by decide +kernel
theorem dX11_goBack_51 : decode cX11_goBack 51 = .ok (.iastore, 1) := by decide +kernel
theorem dX11_goBack_52 : decode cX11_goBack 52 = .ok (.iinc 2 1, 3) := by decide +kernel
theorem dX11_goBack_55 : decode cX11_goBack 55 = .ok (.goto (-26), 3) := by decide +kernel
theorem dX11_goBack_32 : decode cX11_goBack 32 = .ok (.if_icmp .ge 26, 3) := by decide +kernel
theorem dX11_goBack_58 : decode cX11_goBack 58 = .ok (.aload_n 0, 1) := by decide +kernel
theorem dX11_goBack_59 : decode cX11_goBack 59 = .ok (.aload_n 0, 1) := by decide +kernel
theorem dX11_goBack_60 : decode cX11_goBack 60 = .ok (.getfield 105, 3) := by decide +kernel
theorem dX11_goBack_63 : decode cX11_goBack 63 = .ok (.bipush 108, 2) := by decide +kernel
theorem dX11_goBack_65 : decode cX11_goBack 65 = .ok (.iload_n 1, 1) := by decide +kernel
theorem dX11_goBack_66 : decode cX11_goBack 66 = .ok (.imul, 1) := by decide +kernel
theorem dX11_goBack_67 : decode cX11_goBack 67 = .ok (.bipush 107, 2) := by decide +kernel
theorem dX11_goBack_69 : decode cX11_goBack 69 = .ok (.iadd, 1) := by decide +kernel
theorem dX11_goBack_70 : decode cX11_goBack 70 = .ok (.iaload, 1) := by decide +kernel
theorem dX11_goBack_71 : decode cX11_goBack 71 = .ok (.putfield 294, 3) := by decide +kernel
theorem dX11_goBack_74 : decode cX11_goBack 74 = .ok (.aload_n 0, 1) := by decide +kernel
theorem dX11_goBack_75 : decode cX11_goBack 75 = .ok (.iconst 0, 1) := by decide +kernel
theorem dX11_goBack_76 : decode cX11_goBack 76 = .ok (.putfield 232, 3) := by decide +kernel
theorem dX11_goBack_79 : decode cX11_goBack 79 = .ok (.iconst 1, 1) := by decide +kernel
theorem dX11_goBack_80 : decode cX11_goBack 80 = .ok (.ireturn, 1) := by decide +kernel
theorem dX11_goBack_23 : decode cX11_goBack 23 = .ok (.ldc_w 277, 3) := by decide +kernel
theorem dX11_goBack_26 : decode cX11_goBack 26 = .ok (.ireturn, 1) := by decide +kernel
theorem dX11_goBack_20 : decode cX11_goBack 20 = .ok (.ifCond .ne 7, 3) := by decide +kernel
theorem dX11_goBack_10 : decode cX11_goBack 10 = .ok (.ldc_w 261, 3) := by decide +kernel
theorem dX11_goBack_13 : decode cX11_goBack 13 = .ok (.ireturn, 1) := by decide +kernel
theorem dX11_goBack_7 : decode cX11_goBack 7 = .ok (.ifCond .ne 7, 3) := by decide +kernel
theorem lX11_goBack_L29 (x : bo_X) (hx : bo_OK x cX11_goBack RX11 3 1 25) (f1 : Int32) : ∀ (n : Nat) (w2 : Int32) (σ : bo_M), bo_D x 29 [(0, .ref (bo_a x 135)), (1, .int f1), (2, .int w2)] [] σ (mX11_goBack_L29 f1 n w2 σ) (fun a => bo_N x 58 [(0, .ref (bo_a x 135)), (1, .int f1)] [] a) := by
  intro n
  induction n with
  | zero => intro w2 σ; exact bo_none
  | succ n ih =>
    intro w2 σ
    rw [mX11_goBack_L29]
    refine bo_iload_n hx dX11_goBack_29 rfl 2 rfl ?_
    refine bo_bipush (v := 107) hx dX11_goBack_30 (by decide) ?_
    refine bo_icmp_ge hx 58 dX11_goBack_32 (by decide) ?_ ?_
    · refine bo_sub (L' := [(0, .ref (bo_a x 135)), (1, .int f1)]) [0, 1] rfl ?_
      exact bo_arr (fun h => h)
    · refine bo_aload_n hx dX11_goBack_35 rfl 0 rfl ?_
      refine gf_X11_34 hx dX11_goBack_36 ?_
      refine bo_iload_n hx dX11_goBack_39 rfl 2 rfl ?_
      refine bo_aload_n hx dX11_goBack_40 rfl 0 rfl ?_
      refine gf_X11_105 hx dX11_goBack_41 ?_
      refine bo_bipush (v := 108) hx dX11_goBack_44 (by decide) ?_
      refine bo_iload_n hx dX11_goBack_46 rfl 1 rfl ?_
      refine bo_imul hx dX11_goBack_47 ?_
      refine bo_iload_n hx dX11_goBack_48 rfl 2 rfl ?_
      refine bo_iadd hx dX11_goBack_49 ?_
      refine bo_iald hx bo_c_166 dX11_goBack_50 (fun v3 => ?_)
      refine bo_iast hx bo_c_144 dX11_goBack_51 (fun σ4 => ?_)
      refine bo_iinc (L' := [(2, .int (w2 + 1)), (0, .ref (bo_a x 135)), (1, .int f1)]) (w := (w2 + 1)) hx dX11_goBack_52 2 rfl rfl (by decide) rfl ?_
      refine bo_goto hx 29 dX11_goBack_55 (by decide) ?_
      refine bo_sub (L' := [(0, .ref (bo_a x 135)), (1, .int f1), (2, .int (w2 + 1))]) [1, 2, 0] rfl ?_
      exact ih (w2 + 1) σ4
theorem bX11_goBack (x : bo_X) (hx : bo_OK x cX11_goBack RX11 3 1 25) (σ : bo_M) (p1 : Int32) : bo_D x 0 [(0, .ref (bo_a x 135)), (1, .int p1)] [] σ (mX11_goBack σ p1) (bo_Rw x cX11_goBack false) := by
  unfold mX11_goBack
  refine bo_iload_n hx dX11_goBack_0 rfl 1 rfl ?_
  refine bo_i2l hx dX11_goBack_1 ?_
  refine bo_lconst (v := 0) hx dX11_goBack_2 (by decide) ?_
  refine bo_lconst (v := 1) hx dX11_goBack_3 (by decide) ?_
  refine bo_goR (z := true) hx (fun rr hh => bo_runS (As := [.long (Int32.toInt64 p1), .long 0, .long 1]) (S := []) hx dX11_goBack_4 lk_X11_118 ms_X11_in (kX11_in (bo_l x) (bo_g x) hx.inj σ (Int32.toInt64 p1) 0 1 rr hh) ⟨by decide, by decide⟩ rfl rfl (Nat.le_of_ble_eq_true rfl)) (fun v1 hv1 => ?_)
  refine bo_if_ne hx 14 dX11_goBack_7 (by decide) ?_ ?_
  · refine bo_aload_n hx dX11_goBack_14 rfl 0 rfl ?_
    refine gf_X11_108 hx dX11_goBack_15 ?_
    refine bo_iload_n hx dX11_goBack_18 rfl 1 rfl ?_
    refine bo_zald hx bo_c_167 dX11_goBack_19 (fun v2 => ?_)
    refine bo_if_ne hx 27 dX11_goBack_20 (by decide) ?_ ?_
    · refine bo_iconst (v := 0) hx dX11_goBack_27 (by decide) ?_
      refine bo_istore_n (L' := [(2, .int 0), (0, .ref (bo_a x 135)), (1, .int p1)]) hx dX11_goBack_28 rfl (by decide) rfl ?_
      refine bo_sub (L' := [(0, .ref (bo_a x 135)), (1, .int p1), (2, .int 0)]) [1, 2, 0] rfl ?_
      refine bo_seq 58 (fun a => [(0, .ref (bo_a x 135)), (1, .int p1)]) (fun a => []) (fun a => a) (lX11_goBack_L29 x hx p1 bo_fuel 0 σ) (fun a5 => ?_)
      refine bo_aload_n hx dX11_goBack_58 rfl 0 rfl ?_
      refine bo_aload_n hx dX11_goBack_59 rfl 0 rfl ?_
      refine gf_X11_105 hx dX11_goBack_60 ?_
      refine bo_bipush (v := 108) hx dX11_goBack_63 (by decide) ?_
      refine bo_iload_n hx dX11_goBack_65 rfl 1 rfl ?_
      refine bo_imul hx dX11_goBack_66 ?_
      refine bo_bipush (v := 107) hx dX11_goBack_67 (by decide) ?_
      refine bo_iadd hx dX11_goBack_69 ?_
      refine bo_iald hx bo_c_166 dX11_goBack_70 (fun v6 => ?_)
      refine pf_X11_294 hx dX11_goBack_71 (fun σ7 => ?_)
      refine bo_aload_n hx dX11_goBack_74 rfl 0 rfl ?_
      refine bo_iconst (v := 0) hx dX11_goBack_75 (by decide) ?_
      refine pf_X11_232 hx dX11_goBack_76 (fun σ8 => ?_)
      refine bo_iconst (v := 1) hx dX11_goBack_79 (by decide) ?_
      exact bo_retw dX11_goBack_80 (fun h => by cases h)
    · refine bo_ldcw (v := (-1000000003)) hx dX11_goBack_23 wc_X11_277 ?_
      exact bo_retw dX11_goBack_26 (fun h => by cases h)
  · refine bo_ldcw (v := (-1000000001)) hx dX11_goBack_10 wc_X11_261 ?_
    exact bo_retw dX11_goBack_13 (fun h => by cases h)
theorem kX11_goBack (l : Launch) (g : bo_G) (hi : bo_inj g) (σ : bo_M) (p1 : Int32) : bo_CW l g yX11_goBack cX11_goBack 3 (some .int) 1 25 [.ref (g.2.2 135), .int p1] σ false (mX11_goBack σ p1) :=
  bo_metW rfl (Or.inl ⟨rfl, rfl⟩) (by decide) rfl hi (Nat.le_of_ble_eq_true rfl) (fun x e1 e2 hx => by subst e1; subst e2; exact bX11_goBack x hx σ p1)
