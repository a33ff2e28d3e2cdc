/-! the reference's constructor: printed by wip/whole/gen/con4.py -/
section CONM
theorem co_arrL {x : co_X} {cc : ByteArray} {own : String} {nL fr lo kc ks : Nat} {pc : Nat} {L : List (Nat × Value)} {S : List Value} {V : va_W} {k n : Nat} (hx : co_OK x cc own nL fr lo kc ks) {o : Nat × va_E} {v : Int32} {len : Nat} (hd : decode cc pc = .ok (.newarray .int, 2)) (hn : ¬ v < 0) (hN : v.toNatClampNeg = len) (hby : len * 4 ≤ 536870912) (hk : k + 1 ≤ kc) (hs : n + len ≤ ks)
    (kk : ∀ q (V' : va_W), V' = V ++ [(q, .inl (co_c3 x 0, len, .inl (fun _ => 0)))] → co_N x (pc + 2) L (.ref q :: S) (o :: V') (k + 1) (n + len)) : co_N x pc L (.int v :: S) (o :: V) k n := co_arr hx hd hn hN hby hk hs (fun q => kk q _ rfl)
theorem co_arzL {x : co_X} {cc : ByteArray} {own : String} {nL fr lo kc ks : Nat} {pc : Nat} {L : List (Nat × Value)} {S : List Value} {V : va_W} {k n : Nat} (hx : co_OK x cc own nL fr lo kc ks) {o : Nat × va_E} {v : Int32} {len : Nat} (hd : decode cc pc = .ok (.newarray .boolean, 2)) (hn : ¬ v < 0) (hN : v.toNatClampNeg = len) (hby : len * componentBytes .boolean ≤ 536870912) (hk : k + 1 ≤ kc) (hs : n + len ≤ ks)
    (kk : ∀ q (V' : va_W), V' = V ++ [(q, .inl (co_c3 x 1, len, .inl (fun _ => 0)))] → co_N x (pc + 2) L (.ref q :: S) (o :: V') (k + 1) (n + len)) : co_N x pc L (.int v :: S) (o :: V) k n := co_arz hx hd hn hN hby hk hs (fun q => kk q _ rfl)
def co_modI : List Nat := [135, 136, 137, 138, 139, 140, 141, 142, 143, 144, 145, 146, 147, 148, 149, 150, 151, 152, 153, 154, 155, 156, 157, 158, 159, 160, 161, 162, 163, 164, 165, 166, 167]
set_option maxRecDepth 100000 in
set_option maxHeartbeats 4000000 in
theorem kIX11 (l : Launch) (c3 : Nat → ClassId) (D : va_G) : co_C l c3 D yX11_init cX11_init 1 1 12 32 3061 10 d0X11 (co_W c3 D co_modI) 135 := by
  refine co_met (by decide) rfl rfl (Nat.le_of_ble_eq_true rfl) ?_
  intro x h0 e1 e2 e3 hx hin fin
  subst e1; subst e2; subst e3
  refine co_aload (a := h0) hx dkX11_0 rfl 0 rfl ?_
  refine co_super hx dkX11_1 mlX11_1 (Nat.le_refl _) (Nat.le_refl _) ?_
  obtain ⟨fs0, f0⟩ : ∃ z : List Value, z = d0X11 := ⟨_, rfl⟩
  have l0 : fs0.length = 54 := by rw [f0]; rfl
  rw [← f0]
  refine co_aload (a := h0) hx dkX11_4 rfl 0 rfl ?_
  refine co_bipush (v := 7) hx dkX11_5 (by decide) ?_
  refine co_arrL (len := 7) hx dkX11_7 (by decide) (by decide) (Nat.le_of_ble_eq_true rfl) (Nat.le_of_ble_eq_true rfl) (Nat.le_of_ble_eq_true rfl) (fun q1 V1 v1 => ?_)
  refine co_putFL hx hin dkX11_9 in_X11 tyX11 tyX11_ok nmX11 rfl (Nat.le_of_ble_eq_true rfl) fkX11_7 rfl rfl rfl rfl rfl rfl l0 (fun fs1 f1 l1 => ?_)
  refine co_aload (a := h0) hx dkX11_12 rfl 0 rfl ?_
  refine co_bipush (v := 7) hx dkX11_13 (by decide) ?_
  refine co_arrL (len := 7) hx dkX11_15 (by decide) (by decide) (Nat.le_of_ble_eq_true rfl) (Nat.le_of_ble_eq_true rfl) (Nat.le_of_ble_eq_true rfl) (fun q2 V2 v2 => ?_)
  refine co_putFL hx hin dkX11_17 in_X11 tyX11 tyX11_ok nmX11 rfl (Nat.le_of_ble_eq_true rfl) fkX11_13 rfl rfl rfl rfl rfl rfl l1 (fun fs2 f2 l2 => ?_)
  refine co_aload (a := h0) hx dkX11_20 rfl 0 rfl ?_
  refine co_bipush (v := 7) hx dkX11_21 (by decide) ?_
  refine co_arrL (len := 7) hx dkX11_23 (by decide) (by decide) (Nat.le_of_ble_eq_true rfl) (Nat.le_of_ble_eq_true rfl) (Nat.le_of_ble_eq_true rfl) (fun q3 V3 v3 => ?_)
  refine co_putFL hx hin dkX11_25 in_X11 tyX11 tyX11_ok nmX11 rfl (Nat.le_of_ble_eq_true rfl) fkX11_16 rfl rfl rfl rfl rfl rfl l2 (fun fs3 f3 l3 => ?_)
  refine co_aload (a := h0) hx dkX11_28 rfl 0 rfl ?_
  refine co_iconst (v := 4) hx dkX11_29 (by decide) ?_
  refine co_arrL (len := 4) hx dkX11_30 (by decide) (by decide) (Nat.le_of_ble_eq_true rfl) (Nat.le_of_ble_eq_true rfl) (Nat.le_of_ble_eq_true rfl) (fun q4 V4 v4 => ?_)
  refine co_putFL hx hin dkX11_32 in_X11 tyX11 tyX11_ok nmX11 rfl (Nat.le_of_ble_eq_true rfl) fkX11_19 rfl rfl rfl rfl rfl rfl l3 (fun fs4 f4 l4 => ?_)
  refine co_aload (a := h0) hx dkX11_35 rfl 0 rfl ?_
  refine co_iconst (v := 4) hx dkX11_36 (by decide) ?_
  refine co_arrL (len := 4) hx dkX11_37 (by decide) (by decide) (Nat.le_of_ble_eq_true rfl) (Nat.le_of_ble_eq_true rfl) (Nat.le_of_ble_eq_true rfl) (fun q5 V5 v5 => ?_)
  refine co_putFL hx hin dkX11_39 in_X11 tyX11 tyX11_ok nmX11 rfl (Nat.le_of_ble_eq_true rfl) fkX11_22 rfl rfl rfl rfl rfl rfl l4 (fun fs5 f5 l5 => ?_)
  refine co_aload (a := h0) hx dkX11_42 rfl 0 rfl ?_
  refine co_bipush (v := 6) hx dkX11_43 (by decide) ?_
  refine co_arrL (len := 6) hx dkX11_45 (by decide) (by decide) (Nat.le_of_ble_eq_true rfl) (Nat.le_of_ble_eq_true rfl) (Nat.le_of_ble_eq_true rfl) (fun q6 V6 v6 => ?_)
  refine co_putFL hx hin dkX11_47 in_X11 tyX11 tyX11_ok nmX11 rfl (Nat.le_of_ble_eq_true rfl) fkX11_25 rfl rfl rfl rfl rfl rfl l5 (fun fs6 f6 l6 => ?_)
  refine co_aload (a := h0) hx dkX11_50 rfl 0 rfl ?_
  refine co_bipush (v := 6) hx dkX11_51 (by decide) ?_
  refine co_arrL (len := 6) hx dkX11_53 (by decide) (by decide) (Nat.le_of_ble_eq_true rfl) (Nat.le_of_ble_eq_true rfl) (Nat.le_of_ble_eq_true rfl) (fun q7 V7 v7 => ?_)
  refine co_putFL hx hin dkX11_55 in_X11 tyX11 tyX11_ok nmX11 rfl (Nat.le_of_ble_eq_true rfl) fkX11_28 rfl rfl rfl rfl rfl rfl l6 (fun fs7 f7 l7 => ?_)
  refine co_aload (a := h0) hx dkX11_58 rfl 0 rfl ?_
  refine co_iconst (v := 5) hx dkX11_59 (by decide) ?_
  refine co_arrL (len := 5) hx dkX11_60 (by decide) (by decide) (Nat.le_of_ble_eq_true rfl) (Nat.le_of_ble_eq_true rfl) (Nat.le_of_ble_eq_true rfl) (fun q8 V8 v8 => ?_)
  refine co_putFL hx hin dkX11_62 in_X11 tyX11 tyX11_ok nmX11 rfl (Nat.le_of_ble_eq_true rfl) fkX11_31 rfl rfl rfl rfl rfl rfl l7 (fun fs8 f8 l8 => ?_)
  refine co_aload (a := h0) hx dkX11_65 rfl 0 rfl ?_
  refine co_bipush (v := 107) hx dkX11_66 (by decide) ?_
  refine co_arrL (len := 107) hx dkX11_68 (by decide) (by decide) (Nat.le_of_ble_eq_true rfl) (Nat.le_of_ble_eq_true rfl) (Nat.le_of_ble_eq_true rfl) (fun q9 V9 v9 => ?_)
  refine co_putFL hx hin dkX11_70 in_X11 tyX11 tyX11_ok nmX11 rfl (Nat.le_of_ble_eq_true rfl) fkX11_34 rfl rfl rfl rfl rfl rfl l8 (fun fs9 f9 l9 => ?_)
  refine co_aload (a := h0) hx dkX11_73 rfl 0 rfl ?_
  refine co_sipush (v := 240) hx dkX11_74 (by decide) ?_
  refine co_arrL (len := 240) hx dkX11_77 (by decide) (by decide) (Nat.le_of_ble_eq_true rfl) (Nat.le_of_ble_eq_true rfl) (Nat.le_of_ble_eq_true rfl) (fun q10 V10 v10 => ?_)
  refine co_putFL hx hin dkX11_79 in_X11 tyX11 tyX11_ok nmX11 rfl (Nat.le_of_ble_eq_true rfl) fkX11_37 rfl rfl rfl rfl rfl rfl l9 (fun fs10 f10 l10 => ?_)
  refine co_aload (a := h0) hx dkX11_82 rfl 0 rfl ?_
  refine co_iconst (v := -1) hx dkX11_83 (by decide) ?_
  refine co_putL hx dkX11_84 in_X11 tyX11 tyX11_ok nmX11 rfl (Nat.le_of_ble_eq_true rfl) fkX11_40 rfl rfl rfl rfl rfl l10 (fun fs11 f11 l11 => ?_)
  refine co_aload (a := h0) hx dkX11_87 rfl 0 rfl ?_
  refine co_iconst (v := 3) hx dkX11_88 (by decide) ?_
  refine co_arrL (len := 3) hx dkX11_89 (by decide) (by decide) (Nat.le_of_ble_eq_true rfl) (Nat.le_of_ble_eq_true rfl) (Nat.le_of_ble_eq_true rfl) (fun q11 V11 v11 => ?_)
  refine co_putFL hx hin dkX11_91 in_X11 tyX11 tyX11_ok nmX11 rfl (Nat.le_of_ble_eq_true rfl) fkX11_44 rfl rfl rfl rfl rfl rfl l11 (fun fs12 f12 l12 => ?_)
  refine co_aload (a := h0) hx dkX11_94 rfl 0 rfl ?_
  refine co_bipush (v := 7) hx dkX11_95 (by decide) ?_
  refine co_arrL (len := 7) hx dkX11_97 (by decide) (by decide) (Nat.le_of_ble_eq_true rfl) (Nat.le_of_ble_eq_true rfl) (Nat.le_of_ble_eq_true rfl) (fun q12 V12 v12 => ?_)
  refine co_putFL hx hin dkX11_99 in_X11 tyX11 tyX11_ok nmX11 rfl (Nat.le_of_ble_eq_true rfl) fkX11_47 rfl rfl rfl rfl rfl rfl l12 (fun fs13 f13 l13 => ?_)
  refine co_aload (a := h0) hx dkX11_102 rfl 0 rfl ?_
  refine co_bipush (v := 7) hx dkX11_103 (by decide) ?_
  refine co_arrL (len := 7) hx dkX11_105 (by decide) (by decide) (Nat.le_of_ble_eq_true rfl) (Nat.le_of_ble_eq_true rfl) (Nat.le_of_ble_eq_true rfl) (fun q13 V13 v13 => ?_)
  refine co_putFL hx hin dkX11_107 in_X11 tyX11 tyX11_ok nmX11 rfl (Nat.le_of_ble_eq_true rfl) fkX11_50 rfl rfl rfl rfl rfl rfl l13 (fun fs14 f14 l14 => ?_)
  refine co_aload (a := h0) hx dkX11_110 rfl 0 rfl ?_
  refine co_bipush (v := 7) hx dkX11_111 (by decide) ?_
  refine co_arrL (len := 7) hx dkX11_113 (by decide) (by decide) (Nat.le_of_ble_eq_true rfl) (Nat.le_of_ble_eq_true rfl) (Nat.le_of_ble_eq_true rfl) (fun q14 V14 v14 => ?_)
  refine co_putFL hx hin dkX11_115 in_X11 tyX11 tyX11_ok nmX11 rfl (Nat.le_of_ble_eq_true rfl) fkX11_53 rfl rfl rfl rfl rfl rfl l14 (fun fs15 f15 l15 => ?_)
  refine co_aload (a := h0) hx dkX11_118 rfl 0 rfl ?_
  refine co_iconst (v := 4) hx dkX11_119 (by decide) ?_
  refine co_arrL (len := 4) hx dkX11_120 (by decide) (by decide) (Nat.le_of_ble_eq_true rfl) (Nat.le_of_ble_eq_true rfl) (Nat.le_of_ble_eq_true rfl) (fun q15 V15 v15 => ?_)
  refine co_putFL hx hin dkX11_122 in_X11 tyX11 tyX11_ok nmX11 rfl (Nat.le_of_ble_eq_true rfl) fkX11_56 rfl rfl rfl rfl rfl rfl l15 (fun fs16 f16 l16 => ?_)
  refine co_aload (a := h0) hx dkX11_125 rfl 0 rfl ?_
  refine co_iconst (v := 4) hx dkX11_126 (by decide) ?_
  refine co_arrL (len := 4) hx dkX11_127 (by decide) (by decide) (Nat.le_of_ble_eq_true rfl) (Nat.le_of_ble_eq_true rfl) (Nat.le_of_ble_eq_true rfl) (fun q16 V16 v16 => ?_)
  refine co_putFL hx hin dkX11_129 in_X11 tyX11 tyX11_ok nmX11 rfl (Nat.le_of_ble_eq_true rfl) fkX11_59 rfl rfl rfl rfl rfl rfl l16 (fun fs17 f17 l17 => ?_)
  refine co_aload (a := h0) hx dkX11_132 rfl 0 rfl ?_
  refine co_bipush (v := 6) hx dkX11_133 (by decide) ?_
  refine co_arrL (len := 6) hx dkX11_135 (by decide) (by decide) (Nat.le_of_ble_eq_true rfl) (Nat.le_of_ble_eq_true rfl) (Nat.le_of_ble_eq_true rfl) (fun q17 V17 v17 => ?_)
  refine co_putFL hx hin dkX11_137 in_X11 tyX11 tyX11_ok nmX11 rfl (Nat.le_of_ble_eq_true rfl) fkX11_62 rfl rfl rfl rfl rfl rfl l17 (fun fs18 f18 l18 => ?_)
  refine co_aload (a := h0) hx dkX11_140 rfl 0 rfl ?_
  refine co_bipush (v := 6) hx dkX11_141 (by decide) ?_
  refine co_arrL (len := 6) hx dkX11_143 (by decide) (by decide) (Nat.le_of_ble_eq_true rfl) (Nat.le_of_ble_eq_true rfl) (Nat.le_of_ble_eq_true rfl) (fun q18 V18 v18 => ?_)
  refine co_putFL hx hin dkX11_145 in_X11 tyX11 tyX11_ok nmX11 rfl (Nat.le_of_ble_eq_true rfl) fkX11_65 rfl rfl rfl rfl rfl rfl l18 (fun fs19 f19 l19 => ?_)
  refine co_aload (a := h0) hx dkX11_148 rfl 0 rfl ?_
  refine co_iconst (v := 5) hx dkX11_149 (by decide) ?_
  refine co_arrL (len := 5) hx dkX11_150 (by decide) (by decide) (Nat.le_of_ble_eq_true rfl) (Nat.le_of_ble_eq_true rfl) (Nat.le_of_ble_eq_true rfl) (fun q19 V19 v19 => ?_)
  refine co_putFL hx hin dkX11_152 in_X11 tyX11 tyX11_ok nmX11 rfl (Nat.le_of_ble_eq_true rfl) fkX11_68 rfl rfl rfl rfl rfl rfl l19 (fun fs20 f20 l20 => ?_)
  refine co_aload (a := h0) hx dkX11_155 rfl 0 rfl ?_
  refine co_sipush (v := 1712) hx dkX11_156 (by decide) ?_
  refine co_arrL (len := 1712) hx dkX11_159 (by decide) (by decide) (Nat.le_of_ble_eq_true rfl) (Nat.le_of_ble_eq_true rfl) (Nat.le_of_ble_eq_true rfl) (fun q20 V20 v20 => ?_)
  refine co_putFL hx hin dkX11_161 in_X11 tyX11 tyX11_ok nmX11 rfl (Nat.le_of_ble_eq_true rfl) fkX11_71 rfl rfl rfl rfl rfl rfl l20 (fun fs21 f21 l21 => ?_)
  refine co_aload (a := h0) hx dkX11_164 rfl 0 rfl ?_
  refine co_bipush (v := 107) hx dkX11_165 (by decide) ?_
  refine co_arrL (len := 107) hx dkX11_167 (by decide) (by decide) (Nat.le_of_ble_eq_true rfl) (Nat.le_of_ble_eq_true rfl) (Nat.le_of_ble_eq_true rfl) (fun q21 V21 v21 => ?_)
  refine co_putFL hx hin dkX11_169 in_X11 tyX11 tyX11_ok nmX11 rfl (Nat.le_of_ble_eq_true rfl) fkX11_74 rfl rfl rfl rfl rfl rfl l21 (fun fs22 f22 l22 => ?_)
  refine co_aload (a := h0) hx dkX11_172 rfl 0 rfl ?_
  refine co_sipush (v := 192) hx dkX11_173 (by decide) ?_
  refine co_arrL (len := 192) hx dkX11_176 (by decide) (by decide) (Nat.le_of_ble_eq_true rfl) (Nat.le_of_ble_eq_true rfl) (Nat.le_of_ble_eq_true rfl) (fun q22 V22 v22 => ?_)
  refine co_putFL hx hin dkX11_178 in_X11 tyX11 tyX11_ok nmX11 rfl (Nat.le_of_ble_eq_true rfl) fkX11_77 rfl rfl rfl rfl rfl rfl l22 (fun fs23 f23 l23 => ?_)
  refine co_aload (a := h0) hx dkX11_181 rfl 0 rfl ?_
  refine co_sipush (v := 192) hx dkX11_182 (by decide) ?_
  refine co_arrL (len := 192) hx dkX11_185 (by decide) (by decide) (Nat.le_of_ble_eq_true rfl) (Nat.le_of_ble_eq_true rfl) (Nat.le_of_ble_eq_true rfl) (fun q23 V23 v23 => ?_)
  refine co_putFL hx hin dkX11_187 in_X11 tyX11 tyX11_ok nmX11 rfl (Nat.le_of_ble_eq_true rfl) fkX11_80 rfl rfl rfl rfl rfl rfl l23 (fun fs24 f24 l24 => ?_)
  refine co_aload (a := h0) hx dkX11_190 rfl 0 rfl ?_
  refine co_bipush (v := 8) hx dkX11_191 (by decide) ?_
  refine co_arrL (len := 8) hx dkX11_193 (by decide) (by decide) (Nat.le_of_ble_eq_true rfl) (Nat.le_of_ble_eq_true rfl) (Nat.le_of_ble_eq_true rfl) (fun q24 V24 v24 => ?_)
  refine co_putFL hx hin dkX11_195 in_X11 tyX11 tyX11_ok nmX11 rfl (Nat.le_of_ble_eq_true rfl) fkX11_83 rfl rfl rfl rfl rfl rfl l24 (fun fs25 f25 l25 => ?_)
  refine co_aload (a := h0) hx dkX11_198 rfl 0 rfl ?_
  refine co_bipush (v := 6) hx dkX11_199 (by decide) ?_
  refine co_arrL (len := 6) hx dkX11_201 (by decide) (by decide) (Nat.le_of_ble_eq_true rfl) (Nat.le_of_ble_eq_true rfl) (Nat.le_of_ble_eq_true rfl) (fun q25 V25 v25 => ?_)
  refine co_putFL hx hin dkX11_203 in_X11 tyX11 tyX11_ok nmX11 rfl (Nat.le_of_ble_eq_true rfl) fkX11_86 rfl rfl rfl rfl rfl rfl l25 (fun fs26 f26 l26 => ?_)
  refine co_aload (a := h0) hx dkX11_206 rfl 0 rfl ?_
  refine co_bipush (v := 6) hx dkX11_207 (by decide) ?_
  refine co_arrL (len := 6) hx dkX11_209 (by decide) (by decide) (Nat.le_of_ble_eq_true rfl) (Nat.le_of_ble_eq_true rfl) (Nat.le_of_ble_eq_true rfl) (fun q26 V26 v26 => ?_)
  refine co_putFL hx hin dkX11_211 in_X11 tyX11 tyX11_ok nmX11 rfl (Nat.le_of_ble_eq_true rfl) fkX11_89 rfl rfl rfl rfl rfl rfl l26 (fun fs27 f27 l27 => ?_)
  refine co_aload (a := h0) hx dkX11_214 rfl 0 rfl ?_
  refine co_sipush (v := 128) hx dkX11_215 (by decide) ?_
  refine co_arzL (len := 128) hx dkX11_218 (by decide) (by decide) (Nat.le_of_ble_eq_true rfl) (Nat.le_of_ble_eq_true rfl) (Nat.le_of_ble_eq_true rfl) (fun q27 V27 v27 => ?_)
  refine co_putFL hx hin dkX11_220 in_X11 tyX11 tyX11_ok nmX11 rfl (Nat.le_of_ble_eq_true rfl) fkX11_92 rfl rfl rfl rfl rfl rfl l27 (fun fs28 f28 l28 => ?_)
  refine co_aload (a := h0) hx dkX11_223 rfl 0 rfl ?_
  refine co_bipush (v := 20) hx dkX11_224 (by decide) ?_
  refine co_arrL (len := 20) hx dkX11_226 (by decide) (by decide) (Nat.le_of_ble_eq_true rfl) (Nat.le_of_ble_eq_true rfl) (Nat.le_of_ble_eq_true rfl) (fun q28 V28 v28 => ?_)
  refine co_putFL hx hin dkX11_228 in_X11 tyX11 tyX11_ok nmX11 rfl (Nat.le_of_ble_eq_true rfl) fkX11_96 rfl rfl rfl rfl rfl rfl l28 (fun fs29 f29 l29 => ?_)
  refine co_aload (a := h0) hx dkX11_231 rfl 0 rfl ?_
  refine co_bipush (v := 15) hx dkX11_232 (by decide) ?_
  refine co_arrL (len := 15) hx dkX11_234 (by decide) (by decide) (Nat.le_of_ble_eq_true rfl) (Nat.le_of_ble_eq_true rfl) (Nat.le_of_ble_eq_true rfl) (fun q29 V29 v29 => ?_)
  refine co_putFL hx hin dkX11_236 in_X11 tyX11 tyX11_ok nmX11 rfl (Nat.le_of_ble_eq_true rfl) fkX11_99 rfl rfl rfl rfl rfl rfl l29 (fun fs30 f30 l30 => ?_)
  refine co_aload (a := h0) hx dkX11_239 rfl 0 rfl ?_
  refine co_bipush (v := 15) hx dkX11_240 (by decide) ?_
  refine co_arrL (len := 15) hx dkX11_242 (by decide) (by decide) (Nat.le_of_ble_eq_true rfl) (Nat.le_of_ble_eq_true rfl) (Nat.le_of_ble_eq_true rfl) (fun q30 V30 v30 => ?_)
  refine co_putFL hx hin dkX11_244 in_X11 tyX11 tyX11_ok nmX11 rfl (Nat.le_of_ble_eq_true rfl) fkX11_102 rfl rfl rfl rfl rfl rfl l30 (fun fs31 f31 l31 => ?_)
  refine co_aload (a := h0) hx dkX11_247 rfl 0 rfl ?_
  refine co_sipush (v := 216) hx dkX11_248 (by decide) ?_
  refine co_arrL (len := 216) hx dkX11_251 (by decide) (by decide) (Nat.le_of_ble_eq_true rfl) (Nat.le_of_ble_eq_true rfl) (Nat.le_of_ble_eq_true rfl) (fun q31 V31 v31 => ?_)
  refine co_putFL hx hin dkX11_253 in_X11 tyX11 tyX11_ok nmX11 rfl (Nat.le_of_ble_eq_true rfl) fkX11_105 rfl rfl rfl rfl rfl rfl l31 (fun fs32 f32 l32 => ?_)
  refine co_aload (a := h0) hx dkX11_256 rfl 0 rfl ?_
  refine co_iconst (v := 2) hx dkX11_257 (by decide) ?_
  refine co_arzL (len := 2) hx dkX11_258 (by decide) (by decide) (Nat.le_of_ble_eq_true rfl) (Nat.le_of_ble_eq_true rfl) (Nat.le_of_ble_eq_true rfl) (fun q32 V32 v32 => ?_)
  refine co_putFL hx hin dkX11_260 in_X11 tyX11 tyX11_ok nmX11 rfl (Nat.le_of_ble_eq_true rfl) fkX11_108 rfl rfl rfl rfl rfl rfl l32 (fun fs33 f33 l33 => ?_)
  refine co_aload (a := h0) hx dkX11_263 rfl 0 rfl ?_
  refine co_iconst (v := 0) hx dkX11_264 (by decide) ?_
  refine co_putL hx dkX11_265 in_X11 tyX11 tyX11_ok nmX11 rfl (Nat.le_of_ble_eq_true rfl) fkX11_111 rfl rfl rfl rfl rfl l33 (fun fs34 f34 l34 => ?_)
  refine fin _ _ (co_ad 135 [h0, q1, q2, q3, q4, q5, q6, q7, q8, q9, q10, q11, q12, q13, q14, q15, q16, q17, q18, q19, q20, q21, q22, q23, q24, q25, q26, q27, q28, q29, q30, q31, q32]) _ _ _ dkX11_268 ?_ (co_ad_0 _ _) (Nat.le_of_ble_eq_true rfl) (Nat.le_of_ble_eq_true rfl)
  have g0 : fs0 = [.int 0, .int 0, .int 0, .int 0, .int 0, .null, .null, .null, .int 0, .null, .null, .int 0, .null, .null, .int 0, .null, .null, .int 0, .null, .int 0, .int 0, .int 0, .int 0, .int 0, .int 0, .null, .int 0, .null, .null, .null, .int 0, .null, .null, .int 0, .null, .null, .int 0, .null, .int 0, .null, .null, .null, .null, .null, .int 0, .null, .null, .null, .null, .int 0, .null, .null, .null, .null] := f0
  have g1 : fs1 = [.int 0, .int 0, .int 0, .int 0, .int 0, .ref q1, .null, .null, .int 0, .null, .null, .int 0, .null, .null, .int 0, .null, .null, .int 0, .null, .int 0, .int 0, .int 0, .int 0, .int 0, .int 0, .null, .int 0, .null, .null, .null, .int 0, .null, .null, .int 0, .null, .null, .int 0, .null, .int 0, .null, .null, .null, .null, .null, .int 0, .null, .null, .null, .null, .int 0, .null, .null, .null, .null] := by
    rw [f1, g0]
    rfl
  have g2 : fs2 = [.int 0, .int 0, .int 0, .int 0, .int 0, .ref q1, .ref q2, .null, .int 0, .null, .null, .int 0, .null, .null, .int 0, .null, .null, .int 0, .null, .int 0, .int 0, .int 0, .int 0, .int 0, .int 0, .null, .int 0, .null, .null, .null, .int 0, .null, .null, .int 0, .null, .null, .int 0, .null, .int 0, .null, .null, .null, .null, .null, .int 0, .null, .null, .null, .null, .int 0, .null, .null, .null, .null] := by
    rw [f2, g1]
    rfl
  have g3 : fs3 = [.int 0, .int 0, .int 0, .int 0, .int 0, .ref q1, .ref q2, .ref q3, .int 0, .null, .null, .int 0, .null, .null, .int 0, .null, .null, .int 0, .null, .int 0, .int 0, .int 0, .int 0, .int 0, .int 0, .null, .int 0, .null, .null, .null, .int 0, .null, .null, .int 0, .null, .null, .int 0, .null, .int 0, .null, .null, .null, .null, .null, .int 0, .null, .null, .null, .null, .int 0, .null, .null, .null, .null] := by
    rw [f3, g2]
    rfl
  have g4 : fs4 = [.int 0, .int 0, .int 0, .int 0, .int 0, .ref q1, .ref q2, .ref q3, .int 0, .ref q4, .null, .int 0, .null, .null, .int 0, .null, .null, .int 0, .null, .int 0, .int 0, .int 0, .int 0, .int 0, .int 0, .null, .int 0, .null, .null, .null, .int 0, .null, .null, .int 0, .null, .null, .int 0, .null, .int 0, .null, .null, .null, .null, .null, .int 0, .null, .null, .null, .null, .int 0, .null, .null, .null, .null] := by
    rw [f4, g3]
    rfl
  have g5 : fs5 = [.int 0, .int 0, .int 0, .int 0, .int 0, .ref q1, .ref q2, .ref q3, .int 0, .ref q4, .ref q5, .int 0, .null, .null, .int 0, .null, .null, .int 0, .null, .int 0, .int 0, .int 0, .int 0, .int 0, .int 0, .null, .int 0, .null, .null, .null, .int 0, .null, .null, .int 0, .null, .null, .int 0, .null, .int 0, .null, .null, .null, .null, .null, .int 0, .null, .null, .null, .null, .int 0, .null, .null, .null, .null] := by
    rw [f5, g4]
    rfl
  have g6 : fs6 = [.int 0, .int 0, .int 0, .int 0, .int 0, .ref q1, .ref q2, .ref q3, .int 0, .ref q4, .ref q5, .int 0, .ref q6, .null, .int 0, .null, .null, .int 0, .null, .int 0, .int 0, .int 0, .int 0, .int 0, .int 0, .null, .int 0, .null, .null, .null, .int 0, .null, .null, .int 0, .null, .null, .int 0, .null, .int 0, .null, .null, .null, .null, .null, .int 0, .null, .null, .null, .null, .int 0, .null, .null, .null, .null] := by
    rw [f6, g5]
    rfl
  have g7 : fs7 = [.int 0, .int 0, .int 0, .int 0, .int 0, .ref q1, .ref q2, .ref q3, .int 0, .ref q4, .ref q5, .int 0, .ref q6, .ref q7, .int 0, .null, .null, .int 0, .null, .int 0, .int 0, .int 0, .int 0, .int 0, .int 0, .null, .int 0, .null, .null, .null, .int 0, .null, .null, .int 0, .null, .null, .int 0, .null, .int 0, .null, .null, .null, .null, .null, .int 0, .null, .null, .null, .null, .int 0, .null, .null, .null, .null] := by
    rw [f7, g6]
    rfl
  have g8 : fs8 = [.int 0, .int 0, .int 0, .int 0, .int 0, .ref q1, .ref q2, .ref q3, .int 0, .ref q4, .ref q5, .int 0, .ref q6, .ref q7, .int 0, .ref q8, .null, .int 0, .null, .int 0, .int 0, .int 0, .int 0, .int 0, .int 0, .null, .int 0, .null, .null, .null, .int 0, .null, .null, .int 0, .null, .null, .int 0, .null, .int 0, .null, .null, .null, .null, .null, .int 0, .null, .null, .null, .null, .int 0, .null, .null, .null, .null] := by
    rw [f8, g7]
    rfl
  have g9 : fs9 = [.int 0, .int 0, .int 0, .int 0, .int 0, .ref q1, .ref q2, .ref q3, .int 0, .ref q4, .ref q5, .int 0, .ref q6, .ref q7, .int 0, .ref q8, .ref q9, .int 0, .null, .int 0, .int 0, .int 0, .int 0, .int 0, .int 0, .null, .int 0, .null, .null, .null, .int 0, .null, .null, .int 0, .null, .null, .int 0, .null, .int 0, .null, .null, .null, .null, .null, .int 0, .null, .null, .null, .null, .int 0, .null, .null, .null, .null] := by
    rw [f9, g8]
    rfl
  have g10 : fs10 = [.int 0, .int 0, .int 0, .int 0, .int 0, .ref q1, .ref q2, .ref q3, .int 0, .ref q4, .ref q5, .int 0, .ref q6, .ref q7, .int 0, .ref q8, .ref q9, .int 0, .ref q10, .int 0, .int 0, .int 0, .int 0, .int 0, .int 0, .null, .int 0, .null, .null, .null, .int 0, .null, .null, .int 0, .null, .null, .int 0, .null, .int 0, .null, .null, .null, .null, .null, .int 0, .null, .null, .null, .null, .int 0, .null, .null, .null, .null] := by
    rw [f10, g9]
    rfl
  have g11 : fs11 = [.int 0, .int 0, .int 0, .int 0, .int 0, .ref q1, .ref q2, .ref q3, .int 0, .ref q4, .ref q5, .int 0, .ref q6, .ref q7, .int 0, .ref q8, .ref q9, .int 0, .ref q10, .int 0, .int (-1), .int 0, .int 0, .int 0, .int 0, .null, .int 0, .null, .null, .null, .int 0, .null, .null, .int 0, .null, .null, .int 0, .null, .int 0, .null, .null, .null, .null, .null, .int 0, .null, .null, .null, .null, .int 0, .null, .null, .null, .null] := by
    rw [f11, g10]
    rfl
  have g12 : fs12 = [.int 0, .int 0, .int 0, .int 0, .int 0, .ref q1, .ref q2, .ref q3, .int 0, .ref q4, .ref q5, .int 0, .ref q6, .ref q7, .int 0, .ref q8, .ref q9, .int 0, .ref q10, .int 0, .int (-1), .int 0, .int 0, .int 0, .int 0, .ref q11, .int 0, .null, .null, .null, .int 0, .null, .null, .int 0, .null, .null, .int 0, .null, .int 0, .null, .null, .null, .null, .null, .int 0, .null, .null, .null, .null, .int 0, .null, .null, .null, .null] := by
    rw [f12, g11]
    rfl
  have g13 : fs13 = [.int 0, .int 0, .int 0, .int 0, .int 0, .ref q1, .ref q2, .ref q3, .int 0, .ref q4, .ref q5, .int 0, .ref q6, .ref q7, .int 0, .ref q8, .ref q9, .int 0, .ref q10, .int 0, .int (-1), .int 0, .int 0, .int 0, .int 0, .ref q11, .int 0, .ref q12, .null, .null, .int 0, .null, .null, .int 0, .null, .null, .int 0, .null, .int 0, .null, .null, .null, .null, .null, .int 0, .null, .null, .null, .null, .int 0, .null, .null, .null, .null] := by
    rw [f13, g12]
    rfl
  have g14 : fs14 = [.int 0, .int 0, .int 0, .int 0, .int 0, .ref q1, .ref q2, .ref q3, .int 0, .ref q4, .ref q5, .int 0, .ref q6, .ref q7, .int 0, .ref q8, .ref q9, .int 0, .ref q10, .int 0, .int (-1), .int 0, .int 0, .int 0, .int 0, .ref q11, .int 0, .ref q12, .ref q13, .null, .int 0, .null, .null, .int 0, .null, .null, .int 0, .null, .int 0, .null, .null, .null, .null, .null, .int 0, .null, .null, .null, .null, .int 0, .null, .null, .null, .null] := by
    rw [f14, g13]
    rfl
  have g15 : fs15 = [.int 0, .int 0, .int 0, .int 0, .int 0, .ref q1, .ref q2, .ref q3, .int 0, .ref q4, .ref q5, .int 0, .ref q6, .ref q7, .int 0, .ref q8, .ref q9, .int 0, .ref q10, .int 0, .int (-1), .int 0, .int 0, .int 0, .int 0, .ref q11, .int 0, .ref q12, .ref q13, .ref q14, .int 0, .null, .null, .int 0, .null, .null, .int 0, .null, .int 0, .null, .null, .null, .null, .null, .int 0, .null, .null, .null, .null, .int 0, .null, .null, .null, .null] := by
    rw [f15, g14]
    rfl
  have g16 : fs16 = [.int 0, .int 0, .int 0, .int 0, .int 0, .ref q1, .ref q2, .ref q3, .int 0, .ref q4, .ref q5, .int 0, .ref q6, .ref q7, .int 0, .ref q8, .ref q9, .int 0, .ref q10, .int 0, .int (-1), .int 0, .int 0, .int 0, .int 0, .ref q11, .int 0, .ref q12, .ref q13, .ref q14, .int 0, .ref q15, .null, .int 0, .null, .null, .int 0, .null, .int 0, .null, .null, .null, .null, .null, .int 0, .null, .null, .null, .null, .int 0, .null, .null, .null, .null] := by
    rw [f16, g15]
    rfl
  have g17 : fs17 = [.int 0, .int 0, .int 0, .int 0, .int 0, .ref q1, .ref q2, .ref q3, .int 0, .ref q4, .ref q5, .int 0, .ref q6, .ref q7, .int 0, .ref q8, .ref q9, .int 0, .ref q10, .int 0, .int (-1), .int 0, .int 0, .int 0, .int 0, .ref q11, .int 0, .ref q12, .ref q13, .ref q14, .int 0, .ref q15, .ref q16, .int 0, .null, .null, .int 0, .null, .int 0, .null, .null, .null, .null, .null, .int 0, .null, .null, .null, .null, .int 0, .null, .null, .null, .null] := by
    rw [f17, g16]
    rfl
  have g18 : fs18 = [.int 0, .int 0, .int 0, .int 0, .int 0, .ref q1, .ref q2, .ref q3, .int 0, .ref q4, .ref q5, .int 0, .ref q6, .ref q7, .int 0, .ref q8, .ref q9, .int 0, .ref q10, .int 0, .int (-1), .int 0, .int 0, .int 0, .int 0, .ref q11, .int 0, .ref q12, .ref q13, .ref q14, .int 0, .ref q15, .ref q16, .int 0, .ref q17, .null, .int 0, .null, .int 0, .null, .null, .null, .null, .null, .int 0, .null, .null, .null, .null, .int 0, .null, .null, .null, .null] := by
    rw [f18, g17]
    rfl
  have g19 : fs19 = [.int 0, .int 0, .int 0, .int 0, .int 0, .ref q1, .ref q2, .ref q3, .int 0, .ref q4, .ref q5, .int 0, .ref q6, .ref q7, .int 0, .ref q8, .ref q9, .int 0, .ref q10, .int 0, .int (-1), .int 0, .int 0, .int 0, .int 0, .ref q11, .int 0, .ref q12, .ref q13, .ref q14, .int 0, .ref q15, .ref q16, .int 0, .ref q17, .ref q18, .int 0, .null, .int 0, .null, .null, .null, .null, .null, .int 0, .null, .null, .null, .null, .int 0, .null, .null, .null, .null] := by
    rw [f19, g18]
    rfl
  have g20 : fs20 = [.int 0, .int 0, .int 0, .int 0, .int 0, .ref q1, .ref q2, .ref q3, .int 0, .ref q4, .ref q5, .int 0, .ref q6, .ref q7, .int 0, .ref q8, .ref q9, .int 0, .ref q10, .int 0, .int (-1), .int 0, .int 0, .int 0, .int 0, .ref q11, .int 0, .ref q12, .ref q13, .ref q14, .int 0, .ref q15, .ref q16, .int 0, .ref q17, .ref q18, .int 0, .ref q19, .int 0, .null, .null, .null, .null, .null, .int 0, .null, .null, .null, .null, .int 0, .null, .null, .null, .null] := by
    rw [f20, g19]
    rfl
  have g21 : fs21 = [.int 0, .int 0, .int 0, .int 0, .int 0, .ref q1, .ref q2, .ref q3, .int 0, .ref q4, .ref q5, .int 0, .ref q6, .ref q7, .int 0, .ref q8, .ref q9, .int 0, .ref q10, .int 0, .int (-1), .int 0, .int 0, .int 0, .int 0, .ref q11, .int 0, .ref q12, .ref q13, .ref q14, .int 0, .ref q15, .ref q16, .int 0, .ref q17, .ref q18, .int 0, .ref q19, .int 0, .ref q20, .null, .null, .null, .null, .int 0, .null, .null, .null, .null, .int 0, .null, .null, .null, .null] := by
    rw [f21, g20]
    rfl
  have g22 : fs22 = [.int 0, .int 0, .int 0, .int 0, .int 0, .ref q1, .ref q2, .ref q3, .int 0, .ref q4, .ref q5, .int 0, .ref q6, .ref q7, .int 0, .ref q8, .ref q9, .int 0, .ref q10, .int 0, .int (-1), .int 0, .int 0, .int 0, .int 0, .ref q11, .int 0, .ref q12, .ref q13, .ref q14, .int 0, .ref q15, .ref q16, .int 0, .ref q17, .ref q18, .int 0, .ref q19, .int 0, .ref q20, .ref q21, .null, .null, .null, .int 0, .null, .null, .null, .null, .int 0, .null, .null, .null, .null] := by
    rw [f22, g21]
    rfl
  have g23 : fs23 = [.int 0, .int 0, .int 0, .int 0, .int 0, .ref q1, .ref q2, .ref q3, .int 0, .ref q4, .ref q5, .int 0, .ref q6, .ref q7, .int 0, .ref q8, .ref q9, .int 0, .ref q10, .int 0, .int (-1), .int 0, .int 0, .int 0, .int 0, .ref q11, .int 0, .ref q12, .ref q13, .ref q14, .int 0, .ref q15, .ref q16, .int 0, .ref q17, .ref q18, .int 0, .ref q19, .int 0, .ref q20, .ref q21, .ref q22, .null, .null, .int 0, .null, .null, .null, .null, .int 0, .null, .null, .null, .null] := by
    rw [f23, g22]
    rfl
  have g24 : fs24 = [.int 0, .int 0, .int 0, .int 0, .int 0, .ref q1, .ref q2, .ref q3, .int 0, .ref q4, .ref q5, .int 0, .ref q6, .ref q7, .int 0, .ref q8, .ref q9, .int 0, .ref q10, .int 0, .int (-1), .int 0, .int 0, .int 0, .int 0, .ref q11, .int 0, .ref q12, .ref q13, .ref q14, .int 0, .ref q15, .ref q16, .int 0, .ref q17, .ref q18, .int 0, .ref q19, .int 0, .ref q20, .ref q21, .ref q22, .ref q23, .null, .int 0, .null, .null, .null, .null, .int 0, .null, .null, .null, .null] := by
    rw [f24, g23]
    rfl
  have g25 : fs25 = [.int 0, .int 0, .int 0, .int 0, .int 0, .ref q1, .ref q2, .ref q3, .int 0, .ref q4, .ref q5, .int 0, .ref q6, .ref q7, .int 0, .ref q8, .ref q9, .int 0, .ref q10, .int 0, .int (-1), .int 0, .int 0, .int 0, .int 0, .ref q11, .int 0, .ref q12, .ref q13, .ref q14, .int 0, .ref q15, .ref q16, .int 0, .ref q17, .ref q18, .int 0, .ref q19, .int 0, .ref q20, .ref q21, .ref q22, .ref q23, .ref q24, .int 0, .null, .null, .null, .null, .int 0, .null, .null, .null, .null] := by
    rw [f25, g24]
    rfl
  have g26 : fs26 = [.int 0, .int 0, .int 0, .int 0, .int 0, .ref q1, .ref q2, .ref q3, .int 0, .ref q4, .ref q5, .int 0, .ref q6, .ref q7, .int 0, .ref q8, .ref q9, .int 0, .ref q10, .int 0, .int (-1), .int 0, .int 0, .int 0, .int 0, .ref q11, .int 0, .ref q12, .ref q13, .ref q14, .int 0, .ref q15, .ref q16, .int 0, .ref q17, .ref q18, .int 0, .ref q19, .int 0, .ref q20, .ref q21, .ref q22, .ref q23, .ref q24, .int 0, .ref q25, .null, .null, .null, .int 0, .null, .null, .null, .null] := by
    rw [f26, g25]
    rfl
  have g27 : fs27 = [.int 0, .int 0, .int 0, .int 0, .int 0, .ref q1, .ref q2, .ref q3, .int 0, .ref q4, .ref q5, .int 0, .ref q6, .ref q7, .int 0, .ref q8, .ref q9, .int 0, .ref q10, .int 0, .int (-1), .int 0, .int 0, .int 0, .int 0, .ref q11, .int 0, .ref q12, .ref q13, .ref q14, .int 0, .ref q15, .ref q16, .int 0, .ref q17, .ref q18, .int 0, .ref q19, .int 0, .ref q20, .ref q21, .ref q22, .ref q23, .ref q24, .int 0, .ref q25, .ref q26, .null, .null, .int 0, .null, .null, .null, .null] := by
    rw [f27, g26]
    rfl
  have g28 : fs28 = [.int 0, .int 0, .int 0, .int 0, .int 0, .ref q1, .ref q2, .ref q3, .int 0, .ref q4, .ref q5, .int 0, .ref q6, .ref q7, .int 0, .ref q8, .ref q9, .int 0, .ref q10, .int 0, .int (-1), .int 0, .int 0, .int 0, .int 0, .ref q11, .int 0, .ref q12, .ref q13, .ref q14, .int 0, .ref q15, .ref q16, .int 0, .ref q17, .ref q18, .int 0, .ref q19, .int 0, .ref q20, .ref q21, .ref q22, .ref q23, .ref q24, .int 0, .ref q25, .ref q26, .ref q27, .null, .int 0, .null, .null, .null, .null] := by
    rw [f28, g27]
    rfl
  have g29 : fs29 = [.int 0, .int 0, .int 0, .int 0, .int 0, .ref q1, .ref q2, .ref q3, .int 0, .ref q4, .ref q5, .int 0, .ref q6, .ref q7, .int 0, .ref q8, .ref q9, .int 0, .ref q10, .int 0, .int (-1), .int 0, .int 0, .int 0, .int 0, .ref q11, .int 0, .ref q12, .ref q13, .ref q14, .int 0, .ref q15, .ref q16, .int 0, .ref q17, .ref q18, .int 0, .ref q19, .int 0, .ref q20, .ref q21, .ref q22, .ref q23, .ref q24, .int 0, .ref q25, .ref q26, .ref q27, .ref q28, .int 0, .null, .null, .null, .null] := by
    rw [f29, g28]
    rfl
  have g30 : fs30 = [.int 0, .int 0, .int 0, .int 0, .int 0, .ref q1, .ref q2, .ref q3, .int 0, .ref q4, .ref q5, .int 0, .ref q6, .ref q7, .int 0, .ref q8, .ref q9, .int 0, .ref q10, .int 0, .int (-1), .int 0, .int 0, .int 0, .int 0, .ref q11, .int 0, .ref q12, .ref q13, .ref q14, .int 0, .ref q15, .ref q16, .int 0, .ref q17, .ref q18, .int 0, .ref q19, .int 0, .ref q20, .ref q21, .ref q22, .ref q23, .ref q24, .int 0, .ref q25, .ref q26, .ref q27, .ref q28, .int 0, .ref q29, .null, .null, .null] := by
    rw [f30, g29]
    rfl
  have g31 : fs31 = [.int 0, .int 0, .int 0, .int 0, .int 0, .ref q1, .ref q2, .ref q3, .int 0, .ref q4, .ref q5, .int 0, .ref q6, .ref q7, .int 0, .ref q8, .ref q9, .int 0, .ref q10, .int 0, .int (-1), .int 0, .int 0, .int 0, .int 0, .ref q11, .int 0, .ref q12, .ref q13, .ref q14, .int 0, .ref q15, .ref q16, .int 0, .ref q17, .ref q18, .int 0, .ref q19, .int 0, .ref q20, .ref q21, .ref q22, .ref q23, .ref q24, .int 0, .ref q25, .ref q26, .ref q27, .ref q28, .int 0, .ref q29, .ref q30, .null, .null] := by
    rw [f31, g30]
    rfl
  have g32 : fs32 = [.int 0, .int 0, .int 0, .int 0, .int 0, .ref q1, .ref q2, .ref q3, .int 0, .ref q4, .ref q5, .int 0, .ref q6, .ref q7, .int 0, .ref q8, .ref q9, .int 0, .ref q10, .int 0, .int (-1), .int 0, .int 0, .int 0, .int 0, .ref q11, .int 0, .ref q12, .ref q13, .ref q14, .int 0, .ref q15, .ref q16, .int 0, .ref q17, .ref q18, .int 0, .ref q19, .int 0, .ref q20, .ref q21, .ref q22, .ref q23, .ref q24, .int 0, .ref q25, .ref q26, .ref q27, .ref q28, .int 0, .ref q29, .ref q30, .ref q31, .null] := by
    rw [f32, g31]
    rfl
  have g33 : fs33 = [.int 0, .int 0, .int 0, .int 0, .int 0, .ref q1, .ref q2, .ref q3, .int 0, .ref q4, .ref q5, .int 0, .ref q6, .ref q7, .int 0, .ref q8, .ref q9, .int 0, .ref q10, .int 0, .int (-1), .int 0, .int 0, .int 0, .int 0, .ref q11, .int 0, .ref q12, .ref q13, .ref q14, .int 0, .ref q15, .ref q16, .int 0, .ref q17, .ref q18, .int 0, .ref q19, .int 0, .ref q20, .ref q21, .ref q22, .ref q23, .ref q24, .int 0, .ref q25, .ref q26, .ref q27, .ref q28, .int 0, .ref q29, .ref q30, .ref q31, .ref q32] := by
    rw [f33, g32]
    rfl
  have g34 : fs34 = [.int (0), .int 0, .int 0, .int 0, .int 0, .ref q1, .ref q2, .ref q3, .int 0, .ref q4, .ref q5, .int 0, .ref q6, .ref q7, .int 0, .ref q8, .ref q9, .int 0, .ref q10, .int 0, .int (-1), .int 0, .int 0, .int 0, .int 0, .ref q11, .int 0, .ref q12, .ref q13, .ref q14, .int 0, .ref q15, .ref q16, .int 0, .ref q17, .ref q18, .int 0, .ref q19, .int 0, .ref q20, .ref q21, .ref q22, .ref q23, .ref q24, .int 0, .ref q25, .ref q26, .ref q27, .ref q28, .int 0, .ref q29, .ref q30, .ref q31, .ref q32] := by
    rw [f34, g33]
    rfl
  have E0 : co_cell (co_c3 x) (co_G x) (co_ad 135 [h0, q1, q2, q3, q4, q5, q6, q7, q8, q9, q10, q11, q12, q13, q14, q15, q16, q17, q18, q19, q20, q21, q22, q23, q24, q25, q26, q27, q28, q29, q30, q31, q32]) 135 = (h0, .inr (10, fs34)) := by
    rw [co_ob' bo_o_135]
    show ((h0, .inr (10, [.int (0), .int 0, .int 0, .int 0, .int 0, .ref q1, .ref q2, .ref q3, .int 0, .ref q4, .ref q5, .int 0, .ref q6, .ref q7, .int 0, .ref q8, .ref q9, .int 0, .ref q10, .int 0, .int (-1), .int 0, .int 0, .int 0, .int 0, .ref q11, .int 0, .ref q12, .ref q13, .ref q14, .int 0, .ref q15, .ref q16, .int 0, .ref q17, .ref q18, .int 0, .ref q19, .int 0, .ref q20, .ref q21, .ref q22, .ref q23, .ref q24, .int 0, .ref q25, .ref q26, .ref q27, .ref q28, .int 0, .ref q29, .ref q30, .ref q31, .ref q32])) : Nat × va_E) = _
    rw [g34]
  have E1 : co_cell (co_c3 x) (co_G x) (co_ad 135 [h0, q1, q2, q3, q4, q5, q6, q7, q8, q9, q10, q11, q12, q13, q14, q15, q16, q17, q18, q19, q20, q21, q22, q23, q24, q25, q26, q27, q28, q29, q30, q31, q32]) 136 = (q1, .inl (co_c3 x 0, 7, .inl (fun _ => 0))) := co_ar bo_c_136 (by decide)
  have E2 : co_cell (co_c3 x) (co_G x) (co_ad 135 [h0, q1, q2, q3, q4, q5, q6, q7, q8, q9, q10, q11, q12, q13, q14, q15, q16, q17, q18, q19, q20, q21, q22, q23, q24, q25, q26, q27, q28, q29, q30, q31, q32]) 137 = (q2, .inl (co_c3 x 0, 7, .inl (fun _ => 0))) := co_ar bo_c_137 (by decide)
  have E3 : co_cell (co_c3 x) (co_G x) (co_ad 135 [h0, q1, q2, q3, q4, q5, q6, q7, q8, q9, q10, q11, q12, q13, q14, q15, q16, q17, q18, q19, q20, q21, q22, q23, q24, q25, q26, q27, q28, q29, q30, q31, q32]) 138 = (q3, .inl (co_c3 x 0, 7, .inl (fun _ => 0))) := co_ar bo_c_138 (by decide)
  have E4 : co_cell (co_c3 x) (co_G x) (co_ad 135 [h0, q1, q2, q3, q4, q5, q6, q7, q8, q9, q10, q11, q12, q13, q14, q15, q16, q17, q18, q19, q20, q21, q22, q23, q24, q25, q26, q27, q28, q29, q30, q31, q32]) 139 = (q4, .inl (co_c3 x 0, 4, .inl (fun _ => 0))) := co_ar bo_c_139 (by decide)
  have E5 : co_cell (co_c3 x) (co_G x) (co_ad 135 [h0, q1, q2, q3, q4, q5, q6, q7, q8, q9, q10, q11, q12, q13, q14, q15, q16, q17, q18, q19, q20, q21, q22, q23, q24, q25, q26, q27, q28, q29, q30, q31, q32]) 140 = (q5, .inl (co_c3 x 0, 4, .inl (fun _ => 0))) := co_ar bo_c_140 (by decide)
  have E6 : co_cell (co_c3 x) (co_G x) (co_ad 135 [h0, q1, q2, q3, q4, q5, q6, q7, q8, q9, q10, q11, q12, q13, q14, q15, q16, q17, q18, q19, q20, q21, q22, q23, q24, q25, q26, q27, q28, q29, q30, q31, q32]) 141 = (q6, .inl (co_c3 x 0, 6, .inl (fun _ => 0))) := co_ar bo_c_141 (by decide)
  have E7 : co_cell (co_c3 x) (co_G x) (co_ad 135 [h0, q1, q2, q3, q4, q5, q6, q7, q8, q9, q10, q11, q12, q13, q14, q15, q16, q17, q18, q19, q20, q21, q22, q23, q24, q25, q26, q27, q28, q29, q30, q31, q32]) 142 = (q7, .inl (co_c3 x 0, 6, .inl (fun _ => 0))) := co_ar bo_c_142 (by decide)
  have E8 : co_cell (co_c3 x) (co_G x) (co_ad 135 [h0, q1, q2, q3, q4, q5, q6, q7, q8, q9, q10, q11, q12, q13, q14, q15, q16, q17, q18, q19, q20, q21, q22, q23, q24, q25, q26, q27, q28, q29, q30, q31, q32]) 143 = (q8, .inl (co_c3 x 0, 5, .inl (fun _ => 0))) := co_ar bo_c_143 (by decide)
  have E9 : co_cell (co_c3 x) (co_G x) (co_ad 135 [h0, q1, q2, q3, q4, q5, q6, q7, q8, q9, q10, q11, q12, q13, q14, q15, q16, q17, q18, q19, q20, q21, q22, q23, q24, q25, q26, q27, q28, q29, q30, q31, q32]) 144 = (q9, .inl (co_c3 x 0, 107, .inl (fun _ => 0))) := co_ar bo_c_144 (by decide)
  have E10 : co_cell (co_c3 x) (co_G x) (co_ad 135 [h0, q1, q2, q3, q4, q5, q6, q7, q8, q9, q10, q11, q12, q13, q14, q15, q16, q17, q18, q19, q20, q21, q22, q23, q24, q25, q26, q27, q28, q29, q30, q31, q32]) 145 = (q10, .inl (co_c3 x 0, 240, .inl (fun _ => 0))) := co_ar bo_c_145 (by decide)
  have E11 : co_cell (co_c3 x) (co_G x) (co_ad 135 [h0, q1, q2, q3, q4, q5, q6, q7, q8, q9, q10, q11, q12, q13, q14, q15, q16, q17, q18, q19, q20, q21, q22, q23, q24, q25, q26, q27, q28, q29, q30, q31, q32]) 146 = (q11, .inl (co_c3 x 0, 3, .inl (fun _ => 0))) := co_ar bo_c_146 (by decide)
  have E12 : co_cell (co_c3 x) (co_G x) (co_ad 135 [h0, q1, q2, q3, q4, q5, q6, q7, q8, q9, q10, q11, q12, q13, q14, q15, q16, q17, q18, q19, q20, q21, q22, q23, q24, q25, q26, q27, q28, q29, q30, q31, q32]) 147 = (q12, .inl (co_c3 x 0, 7, .inl (fun _ => 0))) := co_ar bo_c_147 (by decide)
  have E13 : co_cell (co_c3 x) (co_G x) (co_ad 135 [h0, q1, q2, q3, q4, q5, q6, q7, q8, q9, q10, q11, q12, q13, q14, q15, q16, q17, q18, q19, q20, q21, q22, q23, q24, q25, q26, q27, q28, q29, q30, q31, q32]) 148 = (q13, .inl (co_c3 x 0, 7, .inl (fun _ => 0))) := co_ar bo_c_148 (by decide)
  have E14 : co_cell (co_c3 x) (co_G x) (co_ad 135 [h0, q1, q2, q3, q4, q5, q6, q7, q8, q9, q10, q11, q12, q13, q14, q15, q16, q17, q18, q19, q20, q21, q22, q23, q24, q25, q26, q27, q28, q29, q30, q31, q32]) 149 = (q14, .inl (co_c3 x 0, 7, .inl (fun _ => 0))) := co_ar bo_c_149 (by decide)
  have E15 : co_cell (co_c3 x) (co_G x) (co_ad 135 [h0, q1, q2, q3, q4, q5, q6, q7, q8, q9, q10, q11, q12, q13, q14, q15, q16, q17, q18, q19, q20, q21, q22, q23, q24, q25, q26, q27, q28, q29, q30, q31, q32]) 150 = (q15, .inl (co_c3 x 0, 4, .inl (fun _ => 0))) := co_ar bo_c_150 (by decide)
  have E16 : co_cell (co_c3 x) (co_G x) (co_ad 135 [h0, q1, q2, q3, q4, q5, q6, q7, q8, q9, q10, q11, q12, q13, q14, q15, q16, q17, q18, q19, q20, q21, q22, q23, q24, q25, q26, q27, q28, q29, q30, q31, q32]) 151 = (q16, .inl (co_c3 x 0, 4, .inl (fun _ => 0))) := co_ar bo_c_151 (by decide)
  have E17 : co_cell (co_c3 x) (co_G x) (co_ad 135 [h0, q1, q2, q3, q4, q5, q6, q7, q8, q9, q10, q11, q12, q13, q14, q15, q16, q17, q18, q19, q20, q21, q22, q23, q24, q25, q26, q27, q28, q29, q30, q31, q32]) 152 = (q17, .inl (co_c3 x 0, 6, .inl (fun _ => 0))) := co_ar bo_c_152 (by decide)
  have E18 : co_cell (co_c3 x) (co_G x) (co_ad 135 [h0, q1, q2, q3, q4, q5, q6, q7, q8, q9, q10, q11, q12, q13, q14, q15, q16, q17, q18, q19, q20, q21, q22, q23, q24, q25, q26, q27, q28, q29, q30, q31, q32]) 153 = (q18, .inl (co_c3 x 0, 6, .inl (fun _ => 0))) := co_ar bo_c_153 (by decide)
  have E19 : co_cell (co_c3 x) (co_G x) (co_ad 135 [h0, q1, q2, q3, q4, q5, q6, q7, q8, q9, q10, q11, q12, q13, q14, q15, q16, q17, q18, q19, q20, q21, q22, q23, q24, q25, q26, q27, q28, q29, q30, q31, q32]) 154 = (q19, .inl (co_c3 x 0, 5, .inl (fun _ => 0))) := co_ar bo_c_154 (by decide)
  have E20 : co_cell (co_c3 x) (co_G x) (co_ad 135 [h0, q1, q2, q3, q4, q5, q6, q7, q8, q9, q10, q11, q12, q13, q14, q15, q16, q17, q18, q19, q20, q21, q22, q23, q24, q25, q26, q27, q28, q29, q30, q31, q32]) 155 = (q20, .inl (co_c3 x 0, 1712, .inl (fun _ => 0))) := co_ar bo_c_155 (by decide)
  have E21 : co_cell (co_c3 x) (co_G x) (co_ad 135 [h0, q1, q2, q3, q4, q5, q6, q7, q8, q9, q10, q11, q12, q13, q14, q15, q16, q17, q18, q19, q20, q21, q22, q23, q24, q25, q26, q27, q28, q29, q30, q31, q32]) 156 = (q21, .inl (co_c3 x 0, 107, .inl (fun _ => 0))) := co_ar bo_c_156 (by decide)
  have E22 : co_cell (co_c3 x) (co_G x) (co_ad 135 [h0, q1, q2, q3, q4, q5, q6, q7, q8, q9, q10, q11, q12, q13, q14, q15, q16, q17, q18, q19, q20, q21, q22, q23, q24, q25, q26, q27, q28, q29, q30, q31, q32]) 157 = (q22, .inl (co_c3 x 0, 192, .inl (fun _ => 0))) := co_ar bo_c_157 (by decide)
  have E23 : co_cell (co_c3 x) (co_G x) (co_ad 135 [h0, q1, q2, q3, q4, q5, q6, q7, q8, q9, q10, q11, q12, q13, q14, q15, q16, q17, q18, q19, q20, q21, q22, q23, q24, q25, q26, q27, q28, q29, q30, q31, q32]) 158 = (q23, .inl (co_c3 x 0, 192, .inl (fun _ => 0))) := co_ar bo_c_158 (by decide)
  have E24 : co_cell (co_c3 x) (co_G x) (co_ad 135 [h0, q1, q2, q3, q4, q5, q6, q7, q8, q9, q10, q11, q12, q13, q14, q15, q16, q17, q18, q19, q20, q21, q22, q23, q24, q25, q26, q27, q28, q29, q30, q31, q32]) 159 = (q24, .inl (co_c3 x 0, 8, .inl (fun _ => 0))) := co_ar bo_c_159 (by decide)
  have E25 : co_cell (co_c3 x) (co_G x) (co_ad 135 [h0, q1, q2, q3, q4, q5, q6, q7, q8, q9, q10, q11, q12, q13, q14, q15, q16, q17, q18, q19, q20, q21, q22, q23, q24, q25, q26, q27, q28, q29, q30, q31, q32]) 160 = (q25, .inl (co_c3 x 0, 6, .inl (fun _ => 0))) := co_ar bo_c_160 (by decide)
  have E26 : co_cell (co_c3 x) (co_G x) (co_ad 135 [h0, q1, q2, q3, q4, q5, q6, q7, q8, q9, q10, q11, q12, q13, q14, q15, q16, q17, q18, q19, q20, q21, q22, q23, q24, q25, q26, q27, q28, q29, q30, q31, q32]) 161 = (q26, .inl (co_c3 x 0, 6, .inl (fun _ => 0))) := co_ar bo_c_161 (by decide)
  have E27 : co_cell (co_c3 x) (co_G x) (co_ad 135 [h0, q1, q2, q3, q4, q5, q6, q7, q8, q9, q10, q11, q12, q13, q14, q15, q16, q17, q18, q19, q20, q21, q22, q23, q24, q25, q26, q27, q28, q29, q30, q31, q32]) 162 = (q27, .inl (co_c3 x 1, 128, .inl (fun _ => 0))) := co_az (show bo_lay 162 = .inl (1, 128) by decide +kernel) (by decide)
  have E28 : co_cell (co_c3 x) (co_G x) (co_ad 135 [h0, q1, q2, q3, q4, q5, q6, q7, q8, q9, q10, q11, q12, q13, q14, q15, q16, q17, q18, q19, q20, q21, q22, q23, q24, q25, q26, q27, q28, q29, q30, q31, q32]) 163 = (q28, .inl (co_c3 x 0, 20, .inl (fun _ => 0))) := co_ar bo_c_163 (by decide)
  have E29 : co_cell (co_c3 x) (co_G x) (co_ad 135 [h0, q1, q2, q3, q4, q5, q6, q7, q8, q9, q10, q11, q12, q13, q14, q15, q16, q17, q18, q19, q20, q21, q22, q23, q24, q25, q26, q27, q28, q29, q30, q31, q32]) 164 = (q29, .inl (co_c3 x 0, 15, .inl (fun _ => 0))) := co_ar bo_c_164 (by decide)
  have E30 : co_cell (co_c3 x) (co_G x) (co_ad 135 [h0, q1, q2, q3, q4, q5, q6, q7, q8, q9, q10, q11, q12, q13, q14, q15, q16, q17, q18, q19, q20, q21, q22, q23, q24, q25, q26, q27, q28, q29, q30, q31, q32]) 165 = (q30, .inl (co_c3 x 0, 15, .inl (fun _ => 0))) := co_ar bo_c_165 (by decide)
  have E31 : co_cell (co_c3 x) (co_G x) (co_ad 135 [h0, q1, q2, q3, q4, q5, q6, q7, q8, q9, q10, q11, q12, q13, q14, q15, q16, q17, q18, q19, q20, q21, q22, q23, q24, q25, q26, q27, q28, q29, q30, q31, q32]) 166 = (q31, .inl (co_c3 x 0, 216, .inl (fun _ => 0))) := co_ar bo_c_166 (by decide)
  have E32 : co_cell (co_c3 x) (co_G x) (co_ad 135 [h0, q1, q2, q3, q4, q5, q6, q7, q8, q9, q10, q11, q12, q13, q14, q15, q16, q17, q18, q19, q20, q21, q22, q23, q24, q25, q26, q27, q28, q29, q30, q31, q32]) 167 = (q32, .inl (co_c3 x 1, 2, .inl (fun _ => 0))) := co_az (show bo_lay 167 = .inl (1, 2) by decide +kernel) (by decide)
  have w1 : V1 = [(q1, .inl (co_c3 x 0, 7, .inl (fun _ => 0)))] := by
    rw [v1]
    rfl
  have w2 : V2 = [(q1, .inl (co_c3 x 0, 7, .inl (fun _ => 0))), (q2, .inl (co_c3 x 0, 7, .inl (fun _ => 0)))] := by
    rw [v2, w1]
    rfl
  have w3 : V3 = [(q1, .inl (co_c3 x 0, 7, .inl (fun _ => 0))), (q2, .inl (co_c3 x 0, 7, .inl (fun _ => 0))), (q3, .inl (co_c3 x 0, 7, .inl (fun _ => 0)))] := by
    rw [v3, w2]
    rfl
  have w4 : V4 = [(q1, .inl (co_c3 x 0, 7, .inl (fun _ => 0))), (q2, .inl (co_c3 x 0, 7, .inl (fun _ => 0))), (q3, .inl (co_c3 x 0, 7, .inl (fun _ => 0))), (q4, .inl (co_c3 x 0, 4, .inl (fun _ => 0)))] := by
    rw [v4, w3]
    rfl
  have w5 : V5 = [(q1, .inl (co_c3 x 0, 7, .inl (fun _ => 0))), (q2, .inl (co_c3 x 0, 7, .inl (fun _ => 0))), (q3, .inl (co_c3 x 0, 7, .inl (fun _ => 0))), (q4, .inl (co_c3 x 0, 4, .inl (fun _ => 0))), (q5, .inl (co_c3 x 0, 4, .inl (fun _ => 0)))] := by
    rw [v5, w4]
    rfl
  have w6 : V6 = [(q1, .inl (co_c3 x 0, 7, .inl (fun _ => 0))), (q2, .inl (co_c3 x 0, 7, .inl (fun _ => 0))), (q3, .inl (co_c3 x 0, 7, .inl (fun _ => 0))), (q4, .inl (co_c3 x 0, 4, .inl (fun _ => 0))), (q5, .inl (co_c3 x 0, 4, .inl (fun _ => 0))), (q6, .inl (co_c3 x 0, 6, .inl (fun _ => 0)))] := by
    rw [v6, w5]
    rfl
  have w7 : V7 = [(q1, .inl (co_c3 x 0, 7, .inl (fun _ => 0))), (q2, .inl (co_c3 x 0, 7, .inl (fun _ => 0))), (q3, .inl (co_c3 x 0, 7, .inl (fun _ => 0))), (q4, .inl (co_c3 x 0, 4, .inl (fun _ => 0))), (q5, .inl (co_c3 x 0, 4, .inl (fun _ => 0))), (q6, .inl (co_c3 x 0, 6, .inl (fun _ => 0))), (q7, .inl (co_c3 x 0, 6, .inl (fun _ => 0)))] := by
    rw [v7, w6]
    rfl
  have w8 : V8 = [(q1, .inl (co_c3 x 0, 7, .inl (fun _ => 0))), (q2, .inl (co_c3 x 0, 7, .inl (fun _ => 0))), (q3, .inl (co_c3 x 0, 7, .inl (fun _ => 0))), (q4, .inl (co_c3 x 0, 4, .inl (fun _ => 0))), (q5, .inl (co_c3 x 0, 4, .inl (fun _ => 0))), (q6, .inl (co_c3 x 0, 6, .inl (fun _ => 0))), (q7, .inl (co_c3 x 0, 6, .inl (fun _ => 0))), (q8, .inl (co_c3 x 0, 5, .inl (fun _ => 0)))] := by
    rw [v8, w7]
    rfl
  have w9 : V9 = [(q1, .inl (co_c3 x 0, 7, .inl (fun _ => 0))), (q2, .inl (co_c3 x 0, 7, .inl (fun _ => 0))), (q3, .inl (co_c3 x 0, 7, .inl (fun _ => 0))), (q4, .inl (co_c3 x 0, 4, .inl (fun _ => 0))), (q5, .inl (co_c3 x 0, 4, .inl (fun _ => 0))), (q6, .inl (co_c3 x 0, 6, .inl (fun _ => 0))), (q7, .inl (co_c3 x 0, 6, .inl (fun _ => 0))), (q8, .inl (co_c3 x 0, 5, .inl (fun _ => 0))), (q9, .inl (co_c3 x 0, 107, .inl (fun _ => 0)))] := by
    rw [v9, w8]
    rfl
  have w10 : V10 = [(q1, .inl (co_c3 x 0, 7, .inl (fun _ => 0))), (q2, .inl (co_c3 x 0, 7, .inl (fun _ => 0))), (q3, .inl (co_c3 x 0, 7, .inl (fun _ => 0))), (q4, .inl (co_c3 x 0, 4, .inl (fun _ => 0))), (q5, .inl (co_c3 x 0, 4, .inl (fun _ => 0))), (q6, .inl (co_c3 x 0, 6, .inl (fun _ => 0))), (q7, .inl (co_c3 x 0, 6, .inl (fun _ => 0))), (q8, .inl (co_c3 x 0, 5, .inl (fun _ => 0))), (q9, .inl (co_c3 x 0, 107, .inl (fun _ => 0))), (q10, .inl (co_c3 x 0, 240, .inl (fun _ => 0)))] := by
    rw [v10, w9]
    rfl
  have w11 : V11 = [(q1, .inl (co_c3 x 0, 7, .inl (fun _ => 0))), (q2, .inl (co_c3 x 0, 7, .inl (fun _ => 0))), (q3, .inl (co_c3 x 0, 7, .inl (fun _ => 0))), (q4, .inl (co_c3 x 0, 4, .inl (fun _ => 0))), (q5, .inl (co_c3 x 0, 4, .inl (fun _ => 0))), (q6, .inl (co_c3 x 0, 6, .inl (fun _ => 0))), (q7, .inl (co_c3 x 0, 6, .inl (fun _ => 0))), (q8, .inl (co_c3 x 0, 5, .inl (fun _ => 0))), (q9, .inl (co_c3 x 0, 107, .inl (fun _ => 0))), (q10, .inl (co_c3 x 0, 240, .inl (fun _ => 0))), (q11, .inl (co_c3 x 0, 3, .inl (fun _ => 0)))] := by
    rw [v11, w10]
    rfl
  have w12 : V12 = [(q1, .inl (co_c3 x 0, 7, .inl (fun _ => 0))), (q2, .inl (co_c3 x 0, 7, .inl (fun _ => 0))), (q3, .inl (co_c3 x 0, 7, .inl (fun _ => 0))), (q4, .inl (co_c3 x 0, 4, .inl (fun _ => 0))), (q5, .inl (co_c3 x 0, 4, .inl (fun _ => 0))), (q6, .inl (co_c3 x 0, 6, .inl (fun _ => 0))), (q7, .inl (co_c3 x 0, 6, .inl (fun _ => 0))), (q8, .inl (co_c3 x 0, 5, .inl (fun _ => 0))), (q9, .inl (co_c3 x 0, 107, .inl (fun _ => 0))), (q10, .inl (co_c3 x 0, 240, .inl (fun _ => 0))), (q11, .inl (co_c3 x 0, 3, .inl (fun _ => 0))), (q12, .inl (co_c3 x 0, 7, .inl (fun _ => 0)))] := by
    rw [v12, w11]
    rfl
  have w13 : V13 = [(q1, .inl (co_c3 x 0, 7, .inl (fun _ => 0))), (q2, .inl (co_c3 x 0, 7, .inl (fun _ => 0))), (q3, .inl (co_c3 x 0, 7, .inl (fun _ => 0))), (q4, .inl (co_c3 x 0, 4, .inl (fun _ => 0))), (q5, .inl (co_c3 x 0, 4, .inl (fun _ => 0))), (q6, .inl (co_c3 x 0, 6, .inl (fun _ => 0))), (q7, .inl (co_c3 x 0, 6, .inl (fun _ => 0))), (q8, .inl (co_c3 x 0, 5, .inl (fun _ => 0))), (q9, .inl (co_c3 x 0, 107, .inl (fun _ => 0))), (q10, .inl (co_c3 x 0, 240, .inl (fun _ => 0))), (q11, .inl (co_c3 x 0, 3, .inl (fun _ => 0))), (q12, .inl (co_c3 x 0, 7, .inl (fun _ => 0))), (q13, .inl (co_c3 x 0, 7, .inl (fun _ => 0)))] := by
    rw [v13, w12]
    rfl
  have w14 : V14 = [(q1, .inl (co_c3 x 0, 7, .inl (fun _ => 0))), (q2, .inl (co_c3 x 0, 7, .inl (fun _ => 0))), (q3, .inl (co_c3 x 0, 7, .inl (fun _ => 0))), (q4, .inl (co_c3 x 0, 4, .inl (fun _ => 0))), (q5, .inl (co_c3 x 0, 4, .inl (fun _ => 0))), (q6, .inl (co_c3 x 0, 6, .inl (fun _ => 0))), (q7, .inl (co_c3 x 0, 6, .inl (fun _ => 0))), (q8, .inl (co_c3 x 0, 5, .inl (fun _ => 0))), (q9, .inl (co_c3 x 0, 107, .inl (fun _ => 0))), (q10, .inl (co_c3 x 0, 240, .inl (fun _ => 0))), (q11, .inl (co_c3 x 0, 3, .inl (fun _ => 0))), (q12, .inl (co_c3 x 0, 7, .inl (fun _ => 0))), (q13, .inl (co_c3 x 0, 7, .inl (fun _ => 0))), (q14, .inl (co_c3 x 0, 7, .inl (fun _ => 0)))] := by
    rw [v14, w13]
    rfl
  have w15 : V15 = [(q1, .inl (co_c3 x 0, 7, .inl (fun _ => 0))), (q2, .inl (co_c3 x 0, 7, .inl (fun _ => 0))), (q3, .inl (co_c3 x 0, 7, .inl (fun _ => 0))), (q4, .inl (co_c3 x 0, 4, .inl (fun _ => 0))), (q5, .inl (co_c3 x 0, 4, .inl (fun _ => 0))), (q6, .inl (co_c3 x 0, 6, .inl (fun _ => 0))), (q7, .inl (co_c3 x 0, 6, .inl (fun _ => 0))), (q8, .inl (co_c3 x 0, 5, .inl (fun _ => 0))), (q9, .inl (co_c3 x 0, 107, .inl (fun _ => 0))), (q10, .inl (co_c3 x 0, 240, .inl (fun _ => 0))), (q11, .inl (co_c3 x 0, 3, .inl (fun _ => 0))), (q12, .inl (co_c3 x 0, 7, .inl (fun _ => 0))), (q13, .inl (co_c3 x 0, 7, .inl (fun _ => 0))), (q14, .inl (co_c3 x 0, 7, .inl (fun _ => 0))), (q15, .inl (co_c3 x 0, 4, .inl (fun _ => 0)))] := by
    rw [v15, w14]
    rfl
  have w16 : V16 = [(q1, .inl (co_c3 x 0, 7, .inl (fun _ => 0))), (q2, .inl (co_c3 x 0, 7, .inl (fun _ => 0))), (q3, .inl (co_c3 x 0, 7, .inl (fun _ => 0))), (q4, .inl (co_c3 x 0, 4, .inl (fun _ => 0))), (q5, .inl (co_c3 x 0, 4, .inl (fun _ => 0))), (q6, .inl (co_c3 x 0, 6, .inl (fun _ => 0))), (q7, .inl (co_c3 x 0, 6, .inl (fun _ => 0))), (q8, .inl (co_c3 x 0, 5, .inl (fun _ => 0))), (q9, .inl (co_c3 x 0, 107, .inl (fun _ => 0))), (q10, .inl (co_c3 x 0, 240, .inl (fun _ => 0))), (q11, .inl (co_c3 x 0, 3, .inl (fun _ => 0))), (q12, .inl (co_c3 x 0, 7, .inl (fun _ => 0))), (q13, .inl (co_c3 x 0, 7, .inl (fun _ => 0))), (q14, .inl (co_c3 x 0, 7, .inl (fun _ => 0))), (q15, .inl (co_c3 x 0, 4, .inl (fun _ => 0))), (q16, .inl (co_c3 x 0, 4, .inl (fun _ => 0)))] := by
    rw [v16, w15]
    rfl
  have w17 : V17 = [(q1, .inl (co_c3 x 0, 7, .inl (fun _ => 0))), (q2, .inl (co_c3 x 0, 7, .inl (fun _ => 0))), (q3, .inl (co_c3 x 0, 7, .inl (fun _ => 0))), (q4, .inl (co_c3 x 0, 4, .inl (fun _ => 0))), (q5, .inl (co_c3 x 0, 4, .inl (fun _ => 0))), (q6, .inl (co_c3 x 0, 6, .inl (fun _ => 0))), (q7, .inl (co_c3 x 0, 6, .inl (fun _ => 0))), (q8, .inl (co_c3 x 0, 5, .inl (fun _ => 0))), (q9, .inl (co_c3 x 0, 107, .inl (fun _ => 0))), (q10, .inl (co_c3 x 0, 240, .inl (fun _ => 0))), (q11, .inl (co_c3 x 0, 3, .inl (fun _ => 0))), (q12, .inl (co_c3 x 0, 7, .inl (fun _ => 0))), (q13, .inl (co_c3 x 0, 7, .inl (fun _ => 0))), (q14, .inl (co_c3 x 0, 7, .inl (fun _ => 0))), (q15, .inl (co_c3 x 0, 4, .inl (fun _ => 0))), (q16, .inl (co_c3 x 0, 4, .inl (fun _ => 0))), (q17, .inl (co_c3 x 0, 6, .inl (fun _ => 0)))] := by
    rw [v17, w16]
    rfl
  have w18 : V18 = [(q1, .inl (co_c3 x 0, 7, .inl (fun _ => 0))), (q2, .inl (co_c3 x 0, 7, .inl (fun _ => 0))), (q3, .inl (co_c3 x 0, 7, .inl (fun _ => 0))), (q4, .inl (co_c3 x 0, 4, .inl (fun _ => 0))), (q5, .inl (co_c3 x 0, 4, .inl (fun _ => 0))), (q6, .inl (co_c3 x 0, 6, .inl (fun _ => 0))), (q7, .inl (co_c3 x 0, 6, .inl (fun _ => 0))), (q8, .inl (co_c3 x 0, 5, .inl (fun _ => 0))), (q9, .inl (co_c3 x 0, 107, .inl (fun _ => 0))), (q10, .inl (co_c3 x 0, 240, .inl (fun _ => 0))), (q11, .inl (co_c3 x 0, 3, .inl (fun _ => 0))), (q12, .inl (co_c3 x 0, 7, .inl (fun _ => 0))), (q13, .inl (co_c3 x 0, 7, .inl (fun _ => 0))), (q14, .inl (co_c3 x 0, 7, .inl (fun _ => 0))), (q15, .inl (co_c3 x 0, 4, .inl (fun _ => 0))), (q16, .inl (co_c3 x 0, 4, .inl (fun _ => 0))), (q17, .inl (co_c3 x 0, 6, .inl (fun _ => 0))), (q18, .inl (co_c3 x 0, 6, .inl (fun _ => 0)))] := by
    rw [v18, w17]
    rfl
  have w19 : V19 = [(q1, .inl (co_c3 x 0, 7, .inl (fun _ => 0))), (q2, .inl (co_c3 x 0, 7, .inl (fun _ => 0))), (q3, .inl (co_c3 x 0, 7, .inl (fun _ => 0))), (q4, .inl (co_c3 x 0, 4, .inl (fun _ => 0))), (q5, .inl (co_c3 x 0, 4, .inl (fun _ => 0))), (q6, .inl (co_c3 x 0, 6, .inl (fun _ => 0))), (q7, .inl (co_c3 x 0, 6, .inl (fun _ => 0))), (q8, .inl (co_c3 x 0, 5, .inl (fun _ => 0))), (q9, .inl (co_c3 x 0, 107, .inl (fun _ => 0))), (q10, .inl (co_c3 x 0, 240, .inl (fun _ => 0))), (q11, .inl (co_c3 x 0, 3, .inl (fun _ => 0))), (q12, .inl (co_c3 x 0, 7, .inl (fun _ => 0))), (q13, .inl (co_c3 x 0, 7, .inl (fun _ => 0))), (q14, .inl (co_c3 x 0, 7, .inl (fun _ => 0))), (q15, .inl (co_c3 x 0, 4, .inl (fun _ => 0))), (q16, .inl (co_c3 x 0, 4, .inl (fun _ => 0))), (q17, .inl (co_c3 x 0, 6, .inl (fun _ => 0))), (q18, .inl (co_c3 x 0, 6, .inl (fun _ => 0))), (q19, .inl (co_c3 x 0, 5, .inl (fun _ => 0)))] := by
    rw [v19, w18]
    rfl
  have w20 : V20 = [(q1, .inl (co_c3 x 0, 7, .inl (fun _ => 0))), (q2, .inl (co_c3 x 0, 7, .inl (fun _ => 0))), (q3, .inl (co_c3 x 0, 7, .inl (fun _ => 0))), (q4, .inl (co_c3 x 0, 4, .inl (fun _ => 0))), (q5, .inl (co_c3 x 0, 4, .inl (fun _ => 0))), (q6, .inl (co_c3 x 0, 6, .inl (fun _ => 0))), (q7, .inl (co_c3 x 0, 6, .inl (fun _ => 0))), (q8, .inl (co_c3 x 0, 5, .inl (fun _ => 0))), (q9, .inl (co_c3 x 0, 107, .inl (fun _ => 0))), (q10, .inl (co_c3 x 0, 240, .inl (fun _ => 0))), (q11, .inl (co_c3 x 0, 3, .inl (fun _ => 0))), (q12, .inl (co_c3 x 0, 7, .inl (fun _ => 0))), (q13, .inl (co_c3 x 0, 7, .inl (fun _ => 0))), (q14, .inl (co_c3 x 0, 7, .inl (fun _ => 0))), (q15, .inl (co_c3 x 0, 4, .inl (fun _ => 0))), (q16, .inl (co_c3 x 0, 4, .inl (fun _ => 0))), (q17, .inl (co_c3 x 0, 6, .inl (fun _ => 0))), (q18, .inl (co_c3 x 0, 6, .inl (fun _ => 0))), (q19, .inl (co_c3 x 0, 5, .inl (fun _ => 0))), (q20, .inl (co_c3 x 0, 1712, .inl (fun _ => 0)))] := by
    rw [v20, w19]
    rfl
  have w21 : V21 = [(q1, .inl (co_c3 x 0, 7, .inl (fun _ => 0))), (q2, .inl (co_c3 x 0, 7, .inl (fun _ => 0))), (q3, .inl (co_c3 x 0, 7, .inl (fun _ => 0))), (q4, .inl (co_c3 x 0, 4, .inl (fun _ => 0))), (q5, .inl (co_c3 x 0, 4, .inl (fun _ => 0))), (q6, .inl (co_c3 x 0, 6, .inl (fun _ => 0))), (q7, .inl (co_c3 x 0, 6, .inl (fun _ => 0))), (q8, .inl (co_c3 x 0, 5, .inl (fun _ => 0))), (q9, .inl (co_c3 x 0, 107, .inl (fun _ => 0))), (q10, .inl (co_c3 x 0, 240, .inl (fun _ => 0))), (q11, .inl (co_c3 x 0, 3, .inl (fun _ => 0))), (q12, .inl (co_c3 x 0, 7, .inl (fun _ => 0))), (q13, .inl (co_c3 x 0, 7, .inl (fun _ => 0))), (q14, .inl (co_c3 x 0, 7, .inl (fun _ => 0))), (q15, .inl (co_c3 x 0, 4, .inl (fun _ => 0))), (q16, .inl (co_c3 x 0, 4, .inl (fun _ => 0))), (q17, .inl (co_c3 x 0, 6, .inl (fun _ => 0))), (q18, .inl (co_c3 x 0, 6, .inl (fun _ => 0))), (q19, .inl (co_c3 x 0, 5, .inl (fun _ => 0))), (q20, .inl (co_c3 x 0, 1712, .inl (fun _ => 0))), (q21, .inl (co_c3 x 0, 107, .inl (fun _ => 0)))] := by
    rw [v21, w20]
    rfl
  have w22 : V22 = [(q1, .inl (co_c3 x 0, 7, .inl (fun _ => 0))), (q2, .inl (co_c3 x 0, 7, .inl (fun _ => 0))), (q3, .inl (co_c3 x 0, 7, .inl (fun _ => 0))), (q4, .inl (co_c3 x 0, 4, .inl (fun _ => 0))), (q5, .inl (co_c3 x 0, 4, .inl (fun _ => 0))), (q6, .inl (co_c3 x 0, 6, .inl (fun _ => 0))), (q7, .inl (co_c3 x 0, 6, .inl (fun _ => 0))), (q8, .inl (co_c3 x 0, 5, .inl (fun _ => 0))), (q9, .inl (co_c3 x 0, 107, .inl (fun _ => 0))), (q10, .inl (co_c3 x 0, 240, .inl (fun _ => 0))), (q11, .inl (co_c3 x 0, 3, .inl (fun _ => 0))), (q12, .inl (co_c3 x 0, 7, .inl (fun _ => 0))), (q13, .inl (co_c3 x 0, 7, .inl (fun _ => 0))), (q14, .inl (co_c3 x 0, 7, .inl (fun _ => 0))), (q15, .inl (co_c3 x 0, 4, .inl (fun _ => 0))), (q16, .inl (co_c3 x 0, 4, .inl (fun _ => 0))), (q17, .inl (co_c3 x 0, 6, .inl (fun _ => 0))), (q18, .inl (co_c3 x 0, 6, .inl (fun _ => 0))), (q19, .inl (co_c3 x 0, 5, .inl (fun _ => 0))), (q20, .inl (co_c3 x 0, 1712, .inl (fun _ => 0))), (q21, .inl (co_c3 x 0, 107, .inl (fun _ => 0))), (q22, .inl (co_c3 x 0, 192, .inl (fun _ => 0)))] := by
    rw [v22, w21]
    rfl
  have w23 : V23 = [(q1, .inl (co_c3 x 0, 7, .inl (fun _ => 0))), (q2, .inl (co_c3 x 0, 7, .inl (fun _ => 0))), (q3, .inl (co_c3 x 0, 7, .inl (fun _ => 0))), (q4, .inl (co_c3 x 0, 4, .inl (fun _ => 0))), (q5, .inl (co_c3 x 0, 4, .inl (fun _ => 0))), (q6, .inl (co_c3 x 0, 6, .inl (fun _ => 0))), (q7, .inl (co_c3 x 0, 6, .inl (fun _ => 0))), (q8, .inl (co_c3 x 0, 5, .inl (fun _ => 0))), (q9, .inl (co_c3 x 0, 107, .inl (fun _ => 0))), (q10, .inl (co_c3 x 0, 240, .inl (fun _ => 0))), (q11, .inl (co_c3 x 0, 3, .inl (fun _ => 0))), (q12, .inl (co_c3 x 0, 7, .inl (fun _ => 0))), (q13, .inl (co_c3 x 0, 7, .inl (fun _ => 0))), (q14, .inl (co_c3 x 0, 7, .inl (fun _ => 0))), (q15, .inl (co_c3 x 0, 4, .inl (fun _ => 0))), (q16, .inl (co_c3 x 0, 4, .inl (fun _ => 0))), (q17, .inl (co_c3 x 0, 6, .inl (fun _ => 0))), (q18, .inl (co_c3 x 0, 6, .inl (fun _ => 0))), (q19, .inl (co_c3 x 0, 5, .inl (fun _ => 0))), (q20, .inl (co_c3 x 0, 1712, .inl (fun _ => 0))), (q21, .inl (co_c3 x 0, 107, .inl (fun _ => 0))), (q22, .inl (co_c3 x 0, 192, .inl (fun _ => 0))), (q23, .inl (co_c3 x 0, 192, .inl (fun _ => 0)))] := by
    rw [v23, w22]
    rfl
  have w24 : V24 = [(q1, .inl (co_c3 x 0, 7, .inl (fun _ => 0))), (q2, .inl (co_c3 x 0, 7, .inl (fun _ => 0))), (q3, .inl (co_c3 x 0, 7, .inl (fun _ => 0))), (q4, .inl (co_c3 x 0, 4, .inl (fun _ => 0))), (q5, .inl (co_c3 x 0, 4, .inl (fun _ => 0))), (q6, .inl (co_c3 x 0, 6, .inl (fun _ => 0))), (q7, .inl (co_c3 x 0, 6, .inl (fun _ => 0))), (q8, .inl (co_c3 x 0, 5, .inl (fun _ => 0))), (q9, .inl (co_c3 x 0, 107, .inl (fun _ => 0))), (q10, .inl (co_c3 x 0, 240, .inl (fun _ => 0))), (q11, .inl (co_c3 x 0, 3, .inl (fun _ => 0))), (q12, .inl (co_c3 x 0, 7, .inl (fun _ => 0))), (q13, .inl (co_c3 x 0, 7, .inl (fun _ => 0))), (q14, .inl (co_c3 x 0, 7, .inl (fun _ => 0))), (q15, .inl (co_c3 x 0, 4, .inl (fun _ => 0))), (q16, .inl (co_c3 x 0, 4, .inl (fun _ => 0))), (q17, .inl (co_c3 x 0, 6, .inl (fun _ => 0))), (q18, .inl (co_c3 x 0, 6, .inl (fun _ => 0))), (q19, .inl (co_c3 x 0, 5, .inl (fun _ => 0))), (q20, .inl (co_c3 x 0, 1712, .inl (fun _ => 0))), (q21, .inl (co_c3 x 0, 107, .inl (fun _ => 0))), (q22, .inl (co_c3 x 0, 192, .inl (fun _ => 0))), (q23, .inl (co_c3 x 0, 192, .inl (fun _ => 0))), (q24, .inl (co_c3 x 0, 8, .inl (fun _ => 0)))] := by
    rw [v24, w23]
    rfl
  have w25 : V25 = [(q1, .inl (co_c3 x 0, 7, .inl (fun _ => 0))), (q2, .inl (co_c3 x 0, 7, .inl (fun _ => 0))), (q3, .inl (co_c3 x 0, 7, .inl (fun _ => 0))), (q4, .inl (co_c3 x 0, 4, .inl (fun _ => 0))), (q5, .inl (co_c3 x 0, 4, .inl (fun _ => 0))), (q6, .inl (co_c3 x 0, 6, .inl (fun _ => 0))), (q7, .inl (co_c3 x 0, 6, .inl (fun _ => 0))), (q8, .inl (co_c3 x 0, 5, .inl (fun _ => 0))), (q9, .inl (co_c3 x 0, 107, .inl (fun _ => 0))), (q10, .inl (co_c3 x 0, 240, .inl (fun _ => 0))), (q11, .inl (co_c3 x 0, 3, .inl (fun _ => 0))), (q12, .inl (co_c3 x 0, 7, .inl (fun _ => 0))), (q13, .inl (co_c3 x 0, 7, .inl (fun _ => 0))), (q14, .inl (co_c3 x 0, 7, .inl (fun _ => 0))), (q15, .inl (co_c3 x 0, 4, .inl (fun _ => 0))), (q16, .inl (co_c3 x 0, 4, .inl (fun _ => 0))), (q17, .inl (co_c3 x 0, 6, .inl (fun _ => 0))), (q18, .inl (co_c3 x 0, 6, .inl (fun _ => 0))), (q19, .inl (co_c3 x 0, 5, .inl (fun _ => 0))), (q20, .inl (co_c3 x 0, 1712, .inl (fun _ => 0))), (q21, .inl (co_c3 x 0, 107, .inl (fun _ => 0))), (q22, .inl (co_c3 x 0, 192, .inl (fun _ => 0))), (q23, .inl (co_c3 x 0, 192, .inl (fun _ => 0))), (q24, .inl (co_c3 x 0, 8, .inl (fun _ => 0))), (q25, .inl (co_c3 x 0, 6, .inl (fun _ => 0)))] := by
    rw [v25, w24]
    rfl
  have w26 : V26 = [(q1, .inl (co_c3 x 0, 7, .inl (fun _ => 0))), (q2, .inl (co_c3 x 0, 7, .inl (fun _ => 0))), (q3, .inl (co_c3 x 0, 7, .inl (fun _ => 0))), (q4, .inl (co_c3 x 0, 4, .inl (fun _ => 0))), (q5, .inl (co_c3 x 0, 4, .inl (fun _ => 0))), (q6, .inl (co_c3 x 0, 6, .inl (fun _ => 0))), (q7, .inl (co_c3 x 0, 6, .inl (fun _ => 0))), (q8, .inl (co_c3 x 0, 5, .inl (fun _ => 0))), (q9, .inl (co_c3 x 0, 107, .inl (fun _ => 0))), (q10, .inl (co_c3 x 0, 240, .inl (fun _ => 0))), (q11, .inl (co_c3 x 0, 3, .inl (fun _ => 0))), (q12, .inl (co_c3 x 0, 7, .inl (fun _ => 0))), (q13, .inl (co_c3 x 0, 7, .inl (fun _ => 0))), (q14, .inl (co_c3 x 0, 7, .inl (fun _ => 0))), (q15, .inl (co_c3 x 0, 4, .inl (fun _ => 0))), (q16, .inl (co_c3 x 0, 4, .inl (fun _ => 0))), (q17, .inl (co_c3 x 0, 6, .inl (fun _ => 0))), (q18, .inl (co_c3 x 0, 6, .inl (fun _ => 0))), (q19, .inl (co_c3 x 0, 5, .inl (fun _ => 0))), (q20, .inl (co_c3 x 0, 1712, .inl (fun _ => 0))), (q21, .inl (co_c3 x 0, 107, .inl (fun _ => 0))), (q22, .inl (co_c3 x 0, 192, .inl (fun _ => 0))), (q23, .inl (co_c3 x 0, 192, .inl (fun _ => 0))), (q24, .inl (co_c3 x 0, 8, .inl (fun _ => 0))), (q25, .inl (co_c3 x 0, 6, .inl (fun _ => 0))), (q26, .inl (co_c3 x 0, 6, .inl (fun _ => 0)))] := by
    rw [v26, w25]
    rfl
  have w27 : V27 = [(q1, .inl (co_c3 x 0, 7, .inl (fun _ => 0))), (q2, .inl (co_c3 x 0, 7, .inl (fun _ => 0))), (q3, .inl (co_c3 x 0, 7, .inl (fun _ => 0))), (q4, .inl (co_c3 x 0, 4, .inl (fun _ => 0))), (q5, .inl (co_c3 x 0, 4, .inl (fun _ => 0))), (q6, .inl (co_c3 x 0, 6, .inl (fun _ => 0))), (q7, .inl (co_c3 x 0, 6, .inl (fun _ => 0))), (q8, .inl (co_c3 x 0, 5, .inl (fun _ => 0))), (q9, .inl (co_c3 x 0, 107, .inl (fun _ => 0))), (q10, .inl (co_c3 x 0, 240, .inl (fun _ => 0))), (q11, .inl (co_c3 x 0, 3, .inl (fun _ => 0))), (q12, .inl (co_c3 x 0, 7, .inl (fun _ => 0))), (q13, .inl (co_c3 x 0, 7, .inl (fun _ => 0))), (q14, .inl (co_c3 x 0, 7, .inl (fun _ => 0))), (q15, .inl (co_c3 x 0, 4, .inl (fun _ => 0))), (q16, .inl (co_c3 x 0, 4, .inl (fun _ => 0))), (q17, .inl (co_c3 x 0, 6, .inl (fun _ => 0))), (q18, .inl (co_c3 x 0, 6, .inl (fun _ => 0))), (q19, .inl (co_c3 x 0, 5, .inl (fun _ => 0))), (q20, .inl (co_c3 x 0, 1712, .inl (fun _ => 0))), (q21, .inl (co_c3 x 0, 107, .inl (fun _ => 0))), (q22, .inl (co_c3 x 0, 192, .inl (fun _ => 0))), (q23, .inl (co_c3 x 0, 192, .inl (fun _ => 0))), (q24, .inl (co_c3 x 0, 8, .inl (fun _ => 0))), (q25, .inl (co_c3 x 0, 6, .inl (fun _ => 0))), (q26, .inl (co_c3 x 0, 6, .inl (fun _ => 0))), (q27, .inl (co_c3 x 1, 128, .inl (fun _ => 0)))] := by
    rw [v27, w26]
    rfl
  have w28 : V28 = [(q1, .inl (co_c3 x 0, 7, .inl (fun _ => 0))), (q2, .inl (co_c3 x 0, 7, .inl (fun _ => 0))), (q3, .inl (co_c3 x 0, 7, .inl (fun _ => 0))), (q4, .inl (co_c3 x 0, 4, .inl (fun _ => 0))), (q5, .inl (co_c3 x 0, 4, .inl (fun _ => 0))), (q6, .inl (co_c3 x 0, 6, .inl (fun _ => 0))), (q7, .inl (co_c3 x 0, 6, .inl (fun _ => 0))), (q8, .inl (co_c3 x 0, 5, .inl (fun _ => 0))), (q9, .inl (co_c3 x 0, 107, .inl (fun _ => 0))), (q10, .inl (co_c3 x 0, 240, .inl (fun _ => 0))), (q11, .inl (co_c3 x 0, 3, .inl (fun _ => 0))), (q12, .inl (co_c3 x 0, 7, .inl (fun _ => 0))), (q13, .inl (co_c3 x 0, 7, .inl (fun _ => 0))), (q14, .inl (co_c3 x 0, 7, .inl (fun _ => 0))), (q15, .inl (co_c3 x 0, 4, .inl (fun _ => 0))), (q16, .inl (co_c3 x 0, 4, .inl (fun _ => 0))), (q17, .inl (co_c3 x 0, 6, .inl (fun _ => 0))), (q18, .inl (co_c3 x 0, 6, .inl (fun _ => 0))), (q19, .inl (co_c3 x 0, 5, .inl (fun _ => 0))), (q20, .inl (co_c3 x 0, 1712, .inl (fun _ => 0))), (q21, .inl (co_c3 x 0, 107, .inl (fun _ => 0))), (q22, .inl (co_c3 x 0, 192, .inl (fun _ => 0))), (q23, .inl (co_c3 x 0, 192, .inl (fun _ => 0))), (q24, .inl (co_c3 x 0, 8, .inl (fun _ => 0))), (q25, .inl (co_c3 x 0, 6, .inl (fun _ => 0))), (q26, .inl (co_c3 x 0, 6, .inl (fun _ => 0))), (q27, .inl (co_c3 x 1, 128, .inl (fun _ => 0))), (q28, .inl (co_c3 x 0, 20, .inl (fun _ => 0)))] := by
    rw [v28, w27]
    rfl
  have w29 : V29 = [(q1, .inl (co_c3 x 0, 7, .inl (fun _ => 0))), (q2, .inl (co_c3 x 0, 7, .inl (fun _ => 0))), (q3, .inl (co_c3 x 0, 7, .inl (fun _ => 0))), (q4, .inl (co_c3 x 0, 4, .inl (fun _ => 0))), (q5, .inl (co_c3 x 0, 4, .inl (fun _ => 0))), (q6, .inl (co_c3 x 0, 6, .inl (fun _ => 0))), (q7, .inl (co_c3 x 0, 6, .inl (fun _ => 0))), (q8, .inl (co_c3 x 0, 5, .inl (fun _ => 0))), (q9, .inl (co_c3 x 0, 107, .inl (fun _ => 0))), (q10, .inl (co_c3 x 0, 240, .inl (fun _ => 0))), (q11, .inl (co_c3 x 0, 3, .inl (fun _ => 0))), (q12, .inl (co_c3 x 0, 7, .inl (fun _ => 0))), (q13, .inl (co_c3 x 0, 7, .inl (fun _ => 0))), (q14, .inl (co_c3 x 0, 7, .inl (fun _ => 0))), (q15, .inl (co_c3 x 0, 4, .inl (fun _ => 0))), (q16, .inl (co_c3 x 0, 4, .inl (fun _ => 0))), (q17, .inl (co_c3 x 0, 6, .inl (fun _ => 0))), (q18, .inl (co_c3 x 0, 6, .inl (fun _ => 0))), (q19, .inl (co_c3 x 0, 5, .inl (fun _ => 0))), (q20, .inl (co_c3 x 0, 1712, .inl (fun _ => 0))), (q21, .inl (co_c3 x 0, 107, .inl (fun _ => 0))), (q22, .inl (co_c3 x 0, 192, .inl (fun _ => 0))), (q23, .inl (co_c3 x 0, 192, .inl (fun _ => 0))), (q24, .inl (co_c3 x 0, 8, .inl (fun _ => 0))), (q25, .inl (co_c3 x 0, 6, .inl (fun _ => 0))), (q26, .inl (co_c3 x 0, 6, .inl (fun _ => 0))), (q27, .inl (co_c3 x 1, 128, .inl (fun _ => 0))), (q28, .inl (co_c3 x 0, 20, .inl (fun _ => 0))), (q29, .inl (co_c3 x 0, 15, .inl (fun _ => 0)))] := by
    rw [v29, w28]
    rfl
  have w30 : V30 = [(q1, .inl (co_c3 x 0, 7, .inl (fun _ => 0))), (q2, .inl (co_c3 x 0, 7, .inl (fun _ => 0))), (q3, .inl (co_c3 x 0, 7, .inl (fun _ => 0))), (q4, .inl (co_c3 x 0, 4, .inl (fun _ => 0))), (q5, .inl (co_c3 x 0, 4, .inl (fun _ => 0))), (q6, .inl (co_c3 x 0, 6, .inl (fun _ => 0))), (q7, .inl (co_c3 x 0, 6, .inl (fun _ => 0))), (q8, .inl (co_c3 x 0, 5, .inl (fun _ => 0))), (q9, .inl (co_c3 x 0, 107, .inl (fun _ => 0))), (q10, .inl (co_c3 x 0, 240, .inl (fun _ => 0))), (q11, .inl (co_c3 x 0, 3, .inl (fun _ => 0))), (q12, .inl (co_c3 x 0, 7, .inl (fun _ => 0))), (q13, .inl (co_c3 x 0, 7, .inl (fun _ => 0))), (q14, .inl (co_c3 x 0, 7, .inl (fun _ => 0))), (q15, .inl (co_c3 x 0, 4, .inl (fun _ => 0))), (q16, .inl (co_c3 x 0, 4, .inl (fun _ => 0))), (q17, .inl (co_c3 x 0, 6, .inl (fun _ => 0))), (q18, .inl (co_c3 x 0, 6, .inl (fun _ => 0))), (q19, .inl (co_c3 x 0, 5, .inl (fun _ => 0))), (q20, .inl (co_c3 x 0, 1712, .inl (fun _ => 0))), (q21, .inl (co_c3 x 0, 107, .inl (fun _ => 0))), (q22, .inl (co_c3 x 0, 192, .inl (fun _ => 0))), (q23, .inl (co_c3 x 0, 192, .inl (fun _ => 0))), (q24, .inl (co_c3 x 0, 8, .inl (fun _ => 0))), (q25, .inl (co_c3 x 0, 6, .inl (fun _ => 0))), (q26, .inl (co_c3 x 0, 6, .inl (fun _ => 0))), (q27, .inl (co_c3 x 1, 128, .inl (fun _ => 0))), (q28, .inl (co_c3 x 0, 20, .inl (fun _ => 0))), (q29, .inl (co_c3 x 0, 15, .inl (fun _ => 0))), (q30, .inl (co_c3 x 0, 15, .inl (fun _ => 0)))] := by
    rw [v30, w29]
    rfl
  have w31 : V31 = [(q1, .inl (co_c3 x 0, 7, .inl (fun _ => 0))), (q2, .inl (co_c3 x 0, 7, .inl (fun _ => 0))), (q3, .inl (co_c3 x 0, 7, .inl (fun _ => 0))), (q4, .inl (co_c3 x 0, 4, .inl (fun _ => 0))), (q5, .inl (co_c3 x 0, 4, .inl (fun _ => 0))), (q6, .inl (co_c3 x 0, 6, .inl (fun _ => 0))), (q7, .inl (co_c3 x 0, 6, .inl (fun _ => 0))), (q8, .inl (co_c3 x 0, 5, .inl (fun _ => 0))), (q9, .inl (co_c3 x 0, 107, .inl (fun _ => 0))), (q10, .inl (co_c3 x 0, 240, .inl (fun _ => 0))), (q11, .inl (co_c3 x 0, 3, .inl (fun _ => 0))), (q12, .inl (co_c3 x 0, 7, .inl (fun _ => 0))), (q13, .inl (co_c3 x 0, 7, .inl (fun _ => 0))), (q14, .inl (co_c3 x 0, 7, .inl (fun _ => 0))), (q15, .inl (co_c3 x 0, 4, .inl (fun _ => 0))), (q16, .inl (co_c3 x 0, 4, .inl (fun _ => 0))), (q17, .inl (co_c3 x 0, 6, .inl (fun _ => 0))), (q18, .inl (co_c3 x 0, 6, .inl (fun _ => 0))), (q19, .inl (co_c3 x 0, 5, .inl (fun _ => 0))), (q20, .inl (co_c3 x 0, 1712, .inl (fun _ => 0))), (q21, .inl (co_c3 x 0, 107, .inl (fun _ => 0))), (q22, .inl (co_c3 x 0, 192, .inl (fun _ => 0))), (q23, .inl (co_c3 x 0, 192, .inl (fun _ => 0))), (q24, .inl (co_c3 x 0, 8, .inl (fun _ => 0))), (q25, .inl (co_c3 x 0, 6, .inl (fun _ => 0))), (q26, .inl (co_c3 x 0, 6, .inl (fun _ => 0))), (q27, .inl (co_c3 x 1, 128, .inl (fun _ => 0))), (q28, .inl (co_c3 x 0, 20, .inl (fun _ => 0))), (q29, .inl (co_c3 x 0, 15, .inl (fun _ => 0))), (q30, .inl (co_c3 x 0, 15, .inl (fun _ => 0))), (q31, .inl (co_c3 x 0, 216, .inl (fun _ => 0)))] := by
    rw [v31, w30]
    rfl
  have w32 : V32 = [(q1, .inl (co_c3 x 0, 7, .inl (fun _ => 0))), (q2, .inl (co_c3 x 0, 7, .inl (fun _ => 0))), (q3, .inl (co_c3 x 0, 7, .inl (fun _ => 0))), (q4, .inl (co_c3 x 0, 4, .inl (fun _ => 0))), (q5, .inl (co_c3 x 0, 4, .inl (fun _ => 0))), (q6, .inl (co_c3 x 0, 6, .inl (fun _ => 0))), (q7, .inl (co_c3 x 0, 6, .inl (fun _ => 0))), (q8, .inl (co_c3 x 0, 5, .inl (fun _ => 0))), (q9, .inl (co_c3 x 0, 107, .inl (fun _ => 0))), (q10, .inl (co_c3 x 0, 240, .inl (fun _ => 0))), (q11, .inl (co_c3 x 0, 3, .inl (fun _ => 0))), (q12, .inl (co_c3 x 0, 7, .inl (fun _ => 0))), (q13, .inl (co_c3 x 0, 7, .inl (fun _ => 0))), (q14, .inl (co_c3 x 0, 7, .inl (fun _ => 0))), (q15, .inl (co_c3 x 0, 4, .inl (fun _ => 0))), (q16, .inl (co_c3 x 0, 4, .inl (fun _ => 0))), (q17, .inl (co_c3 x 0, 6, .inl (fun _ => 0))), (q18, .inl (co_c3 x 0, 6, .inl (fun _ => 0))), (q19, .inl (co_c3 x 0, 5, .inl (fun _ => 0))), (q20, .inl (co_c3 x 0, 1712, .inl (fun _ => 0))), (q21, .inl (co_c3 x 0, 107, .inl (fun _ => 0))), (q22, .inl (co_c3 x 0, 192, .inl (fun _ => 0))), (q23, .inl (co_c3 x 0, 192, .inl (fun _ => 0))), (q24, .inl (co_c3 x 0, 8, .inl (fun _ => 0))), (q25, .inl (co_c3 x 0, 6, .inl (fun _ => 0))), (q26, .inl (co_c3 x 0, 6, .inl (fun _ => 0))), (q27, .inl (co_c3 x 1, 128, .inl (fun _ => 0))), (q28, .inl (co_c3 x 0, 20, .inl (fun _ => 0))), (q29, .inl (co_c3 x 0, 15, .inl (fun _ => 0))), (q30, .inl (co_c3 x 0, 15, .inl (fun _ => 0))), (q31, .inl (co_c3 x 0, 216, .inl (fun _ => 0))), (q32, .inl (co_c3 x 1, 2, .inl (fun _ => 0)))] := by
    rw [v32, w31]
    rfl
  have hW : co_W (co_c3 x) (co_G x) co_modI (co_ad 135 [h0, q1, q2, q3, q4, q5, q6, q7, q8, q9, q10, q11, q12, q13, q14, q15, q16, q17, q18, q19, q20, q21, q22, q23, q24, q25, q26, q27, q28, q29, q30, q31, q32]) = [co_cell (co_c3 x) (co_G x) (co_ad 135 [h0, q1, q2, q3, q4, q5, q6, q7, q8, q9, q10, q11, q12, q13, q14, q15, q16, q17, q18, q19, q20, q21, q22, q23, q24, q25, q26, q27, q28, q29, q30, q31, q32]) 135, co_cell (co_c3 x) (co_G x) (co_ad 135 [h0, q1, q2, q3, q4, q5, q6, q7, q8, q9, q10, q11, q12, q13, q14, q15, q16, q17, q18, q19, q20, q21, q22, q23, q24, q25, q26, q27, q28, q29, q30, q31, q32]) 136, co_cell (co_c3 x) (co_G x) (co_ad 135 [h0, q1, q2, q3, q4, q5, q6, q7, q8, q9, q10, q11, q12, q13, q14, q15, q16, q17, q18, q19, q20, q21, q22, q23, q24, q25, q26, q27, q28, q29, q30, q31, q32]) 137, co_cell (co_c3 x) (co_G x) (co_ad 135 [h0, q1, q2, q3, q4, q5, q6, q7, q8, q9, q10, q11, q12, q13, q14, q15, q16, q17, q18, q19, q20, q21, q22, q23, q24, q25, q26, q27, q28, q29, q30, q31, q32]) 138, co_cell (co_c3 x) (co_G x) (co_ad 135 [h0, q1, q2, q3, q4, q5, q6, q7, q8, q9, q10, q11, q12, q13, q14, q15, q16, q17, q18, q19, q20, q21, q22, q23, q24, q25, q26, q27, q28, q29, q30, q31, q32]) 139, co_cell (co_c3 x) (co_G x) (co_ad 135 [h0, q1, q2, q3, q4, q5, q6, q7, q8, q9, q10, q11, q12, q13, q14, q15, q16, q17, q18, q19, q20, q21, q22, q23, q24, q25, q26, q27, q28, q29, q30, q31, q32]) 140, co_cell (co_c3 x) (co_G x) (co_ad 135 [h0, q1, q2, q3, q4, q5, q6, q7, q8, q9, q10, q11, q12, q13, q14, q15, q16, q17, q18, q19, q20, q21, q22, q23, q24, q25, q26, q27, q28, q29, q30, q31, q32]) 141, co_cell (co_c3 x) (co_G x) (co_ad 135 [h0, q1, q2, q3, q4, q5, q6, q7, q8, q9, q10, q11, q12, q13, q14, q15, q16, q17, q18, q19, q20, q21, q22, q23, q24, q25, q26, q27, q28, q29, q30, q31, q32]) 142, co_cell (co_c3 x) (co_G x) (co_ad 135 [h0, q1, q2, q3, q4, q5, q6, q7, q8, q9, q10, q11, q12, q13, q14, q15, q16, q17, q18, q19, q20, q21, q22, q23, q24, q25, q26, q27, q28, q29, q30, q31, q32]) 143, co_cell (co_c3 x) (co_G x) (co_ad 135 [h0, q1, q2, q3, q4, q5, q6, q7, q8, q9, q10, q11, q12, q13, q14, q15, q16, q17, q18, q19, q20, q21, q22, q23, q24, q25, q26, q27, q28, q29, q30, q31, q32]) 144, co_cell (co_c3 x) (co_G x) (co_ad 135 [h0, q1, q2, q3, q4, q5, q6, q7, q8, q9, q10, q11, q12, q13, q14, q15, q16, q17, q18, q19, q20, q21, q22, q23, q24, q25, q26, q27, q28, q29, q30, q31, q32]) 145, co_cell (co_c3 x) (co_G x) (co_ad 135 [h0, q1, q2, q3, q4, q5, q6, q7, q8, q9, q10, q11, q12, q13, q14, q15, q16, q17, q18, q19, q20, q21, q22, q23, q24, q25, q26, q27, q28, q29, q30, q31, q32]) 146, co_cell (co_c3 x) (co_G x) (co_ad 135 [h0, q1, q2, q3, q4, q5, q6, q7, q8, q9, q10, q11, q12, q13, q14, q15, q16, q17, q18, q19, q20, q21, q22, q23, q24, q25, q26, q27, q28, q29, q30, q31, q32]) 147, co_cell (co_c3 x) (co_G x) (co_ad 135 [h0, q1, q2, q3, q4, q5, q6, q7, q8, q9, q10, q11, q12, q13, q14, q15, q16, q17, q18, q19, q20, q21, q22, q23, q24, q25, q26, q27, q28, q29, q30, q31, q32]) 148, co_cell (co_c3 x) (co_G x) (co_ad 135 [h0, q1, q2, q3, q4, q5, q6, q7, q8, q9, q10, q11, q12, q13, q14, q15, q16, q17, q18, q19, q20, q21, q22, q23, q24, q25, q26, q27, q28, q29, q30, q31, q32]) 149, co_cell (co_c3 x) (co_G x) (co_ad 135 [h0, q1, q2, q3, q4, q5, q6, q7, q8, q9, q10, q11, q12, q13, q14, q15, q16, q17, q18, q19, q20, q21, q22, q23, q24, q25, q26, q27, q28, q29, q30, q31, q32]) 150, co_cell (co_c3 x) (co_G x) (co_ad 135 [h0, q1, q2, q3, q4, q5, q6, q7, q8, q9, q10, q11, q12, q13, q14, q15, q16, q17, q18, q19, q20, q21, q22, q23, q24, q25, q26, q27, q28, q29, q30, q31, q32]) 151, co_cell (co_c3 x) (co_G x) (co_ad 135 [h0, q1, q2, q3, q4, q5, q6, q7, q8, q9, q10, q11, q12, q13, q14, q15, q16, q17, q18, q19, q20, q21, q22, q23, q24, q25, q26, q27, q28, q29, q30, q31, q32]) 152, co_cell (co_c3 x) (co_G x) (co_ad 135 [h0, q1, q2, q3, q4, q5, q6, q7, q8, q9, q10, q11, q12, q13, q14, q15, q16, q17, q18, q19, q20, q21, q22, q23, q24, q25, q26, q27, q28, q29, q30, q31, q32]) 153, co_cell (co_c3 x) (co_G x) (co_ad 135 [h0, q1, q2, q3, q4, q5, q6, q7, q8, q9, q10, q11, q12, q13, q14, q15, q16, q17, q18, q19, q20, q21, q22, q23, q24, q25, q26, q27, q28, q29, q30, q31, q32]) 154, co_cell (co_c3 x) (co_G x) (co_ad 135 [h0, q1, q2, q3, q4, q5, q6, q7, q8, q9, q10, q11, q12, q13, q14, q15, q16, q17, q18, q19, q20, q21, q22, q23, q24, q25, q26, q27, q28, q29, q30, q31, q32]) 155, co_cell (co_c3 x) (co_G x) (co_ad 135 [h0, q1, q2, q3, q4, q5, q6, q7, q8, q9, q10, q11, q12, q13, q14, q15, q16, q17, q18, q19, q20, q21, q22, q23, q24, q25, q26, q27, q28, q29, q30, q31, q32]) 156, co_cell (co_c3 x) (co_G x) (co_ad 135 [h0, q1, q2, q3, q4, q5, q6, q7, q8, q9, q10, q11, q12, q13, q14, q15, q16, q17, q18, q19, q20, q21, q22, q23, q24, q25, q26, q27, q28, q29, q30, q31, q32]) 157, co_cell (co_c3 x) (co_G x) (co_ad 135 [h0, q1, q2, q3, q4, q5, q6, q7, q8, q9, q10, q11, q12, q13, q14, q15, q16, q17, q18, q19, q20, q21, q22, q23, q24, q25, q26, q27, q28, q29, q30, q31, q32]) 158, co_cell (co_c3 x) (co_G x) (co_ad 135 [h0, q1, q2, q3, q4, q5, q6, q7, q8, q9, q10, q11, q12, q13, q14, q15, q16, q17, q18, q19, q20, q21, q22, q23, q24, q25, q26, q27, q28, q29, q30, q31, q32]) 159, co_cell (co_c3 x) (co_G x) (co_ad 135 [h0, q1, q2, q3, q4, q5, q6, q7, q8, q9, q10, q11, q12, q13, q14, q15, q16, q17, q18, q19, q20, q21, q22, q23, q24, q25, q26, q27, q28, q29, q30, q31, q32]) 160, co_cell (co_c3 x) (co_G x) (co_ad 135 [h0, q1, q2, q3, q4, q5, q6, q7, q8, q9, q10, q11, q12, q13, q14, q15, q16, q17, q18, q19, q20, q21, q22, q23, q24, q25, q26, q27, q28, q29, q30, q31, q32]) 161, co_cell (co_c3 x) (co_G x) (co_ad 135 [h0, q1, q2, q3, q4, q5, q6, q7, q8, q9, q10, q11, q12, q13, q14, q15, q16, q17, q18, q19, q20, q21, q22, q23, q24, q25, q26, q27, q28, q29, q30, q31, q32]) 162, co_cell (co_c3 x) (co_G x) (co_ad 135 [h0, q1, q2, q3, q4, q5, q6, q7, q8, q9, q10, q11, q12, q13, q14, q15, q16, q17, q18, q19, q20, q21, q22, q23, q24, q25, q26, q27, q28, q29, q30, q31, q32]) 163, co_cell (co_c3 x) (co_G x) (co_ad 135 [h0, q1, q2, q3, q4, q5, q6, q7, q8, q9, q10, q11, q12, q13, q14, q15, q16, q17, q18, q19, q20, q21, q22, q23, q24, q25, q26, q27, q28, q29, q30, q31, q32]) 164, co_cell (co_c3 x) (co_G x) (co_ad 135 [h0, q1, q2, q3, q4, q5, q6, q7, q8, q9, q10, q11, q12, q13, q14, q15, q16, q17, q18, q19, q20, q21, q22, q23, q24, q25, q26, q27, q28, q29, q30, q31, q32]) 165, co_cell (co_c3 x) (co_G x) (co_ad 135 [h0, q1, q2, q3, q4, q5, q6, q7, q8, q9, q10, q11, q12, q13, q14, q15, q16, q17, q18, q19, q20, q21, q22, q23, q24, q25, q26, q27, q28, q29, q30, q31, q32]) 166, co_cell (co_c3 x) (co_G x) (co_ad 135 [h0, q1, q2, q3, q4, q5, q6, q7, q8, q9, q10, q11, q12, q13, q14, q15, q16, q17, q18, q19, q20, q21, q22, q23, q24, q25, q26, q27, q28, q29, q30, q31, q32]) 167] := rfl
  rw [hW, E0, E1, E2, E3, E4, E5, E6, E7, E8, E9, E10, E11, E12, E13, E14, E15, E16, E17, E18, E19, E20, E21, E22, E23, E24, E25, E26, E27, E28, E29, E30, E31, E32, w32]
end CONM
