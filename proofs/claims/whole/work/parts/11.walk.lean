-- BellRope.told
theorem dX10_told_0 : decode cX10_told 0 = .ok (.iload_n 1, 1) := by decide +kernel
theorem dX10_told_84 : decode cX10_told 84 = .ok (.aload_n 0, 1) := by decide +kernel
theorem dX10_told_85 : decode cX10_told 85 = .ok (.getfield 71, 3) := by decide +kernel
theorem dX10_told_88 : decode cX10_told 88 = .ok (.getfield 108, 3) := by decide +kernel
theorem dX10_told_91 : decode cX10_told 91 = .ok (.ireturn, 1) := by decide +kernel
theorem dX10_told_92 : decode cX10_told 92 = .ok (.aload_n 0, 1) := by decide +kernel
theorem dX10_told_93 : decode cX10_told 93 = .ok (.getfield 71, 3) := by decide +kernel
theorem dX10_told_96 : decode cX10_told 96 = .ok (.getfield 111, 3) := by decide +kernel
theorem dX10_told_99 : decode cX10_told 99 = .ok (.ireturn, 1) := by decide +kernel
theorem dX10_told_100 : decode cX10_told 100 = .ok (.aload_n 0, 1) := by decide +kernel
theorem dX10_told_101 : decode cX10_told 101 = .ok (.getfield 71, 3) := by decide +kernel
theorem dX10_told_104 : decode cX10_told 104 = .ok (.getfield 102, 3) := by decide +kernel
theorem dX10_told_107 : decode cX10_told 107 = .ok (.ireturn, 1) := by decide +kernel
theorem dX10_told_108 : decode cX10_told 108 = .ok (.aload_n 0, 1) := by decide +kernel
theorem dX10_told_109 : decode cX10_told 109 = .ok (.getfield 71, 3) := by decide +kernel
theorem dX10_told_112 : decode cX10_told 112 = .ok (.getfield 114, 3) := by decide +kernel
theorem dX10_told_115 : decode cX10_told 115 = .ok (.ireturn, 1) := by decide +kernel
theorem dX10_told_116 : decode cX10_told 116 = .ok (.aload_n 0, 1) := by decide +kernel
theorem dX10_told_117 : decode cX10_told 117 = .ok (.getfield 71, 3) := by decide +kernel
theorem dX10_told_120 : decode cX10_told 120 = .ok (.getfield 117, 3) := by decide +kernel
theorem dX10_told_123 : decode cX10_told 123 = .ok (.ireturn, 1) := by decide +kernel
theorem dX10_told_124 : decode cX10_told 124 = .ok (.aload_n 0, 1) := by decide +kernel
theorem dX10_told_125 : decode cX10_told 125 = .ok (.getfield 10, 3) := by decide +kernel
theorem dX10_told_128 : decode cX10_told 128 = .ok (.getfield 83, 3) := by decide +kernel
theorem dX10_told_131 : decode cX10_told 131 = .ok (.ireturn, 1) := by decide +kernel
theorem dX10_told_132 : decode cX10_told 132 = .ok (.aload_n 0, 1) := by decide +kernel
theorem dX10_told_133 : decode cX10_told 133 = .ok (.getfield 19, 3) := by decide +kernel
theorem dX10_told_136 : decode cX10_told 136 = .ok (.getfield 120, 3) := by decide +kernel
theorem dX10_told_139 : decode cX10_told 139 = .ok (.ireturn, 1) := by decide +kernel
theorem dX10_told_140 : decode cX10_told 140 = .ok (.aload_n 0, 1) := by decide +kernel
theorem dX10_told_141 : decode cX10_told 141 = .ok (.getfield 19, 3) := by decide +kernel
theorem dX10_told_144 : decode cX10_told 144 = .ok (.getfield 123, 3) := by decide +kernel
theorem dX10_told_147 : decode cX10_told 147 = .ok (.ireturn, 1) := by decide +kernel
theorem dX10_told_148 : decode cX10_told 148 = .ok (.aload_n 0, 1) := by decide +kernel
theorem dX10_told_149 : decode cX10_told 149 = .ok (.getfield 19, 3) := by decide +kernel
theorem dX10_told_152 : decode cX10_told 152 = .ok (.getfield 126, 3) := by decide +kernel
theorem dX10_told_155 : decode cX10_told 155 = .ok (.ireturn, 1) := by decide +kernel
theorem dX10_told_156 : decode cX10_told 156 = .ok (.aload_n 0, 1) := by decide +kernel
theorem dX10_told_157 : decode cX10_told 157 = .ok (.getfield 19, 3) := by decide +kernel
theorem dX10_told_160 : decode cX10_told 160 = .ok (.aload_n 0, 1) := by decide +kernel
theorem dX10_told_161 : decode cX10_told 161 = .ok (.getfield 71, 3) := by decide +kernel
theorem dX10_told_164 : decode cX10_told 164 = .ok (.invokevirtual 129, 3) := by decide +kernel
theorem dX10_told_174 : decode cX10_told 174 = .ok (.iconst 0, 1) := by decide +kernel
theorem dX10_told_175 : decode cX10_told 175 = .ok (.ireturn, 1) := by decide +kernel
theorem dX10_told_170 : decode cX10_told 170 = .ok (.iconst 1, 1) := by decide +kernel
theorem dX10_told_171 : decode cX10_told 171 = .ok (.goto 4, 3) := by decide +kernel
theorem dX10_told_167 : decode cX10_told 167 = .ok (.ifCond .eq 7, 3) := by decide +kernel
theorem dX10_told_176 : decode cX10_told 176 = .ok (.aload_n 0, 1) := by decide +kernel
theorem dX10_told_177 : decode cX10_told 177 = .ok (.getfield 19, 3) := by decide +kernel
theorem dX10_told_180 : decode cX10_told 180 = .ok (.getfield 133, 3) := by decide +kernel
theorem dX10_told_183 : decode cX10_told 183 = .ok (.ireturn, 1) := by decide +kernel
theorem dX10_told_184 : decode cX10_told 184 = .ok (.aload_n 0, 1) := by decide +kernel
theorem dX10_told_185 : decode cX10_told 185 = .ok (.getfield 19, 3) := by decide +kernel
theorem dX10_told_188 : decode cX10_told 188 = .ok (.getfield 136, 3) := by decide +kernel
theorem dX10_told_191 : decode cX10_told 191 = .ok (.ireturn, 1) := by decide +kernel
theorem dX10_told_192 : decode cX10_told 192 = .ok (.aload_n 0, 1) := by decide +kernel
theorem dX10_told_193 : decode cX10_told 193 = .ok (.getfield 19, 3) := by decide +kernel
theorem dX10_told_196 : decode cX10_told 196 = .ok (.invokevirtual 139, 3) := by decide +kernel
theorem dX10_told_199 : decode cX10_told 199 = .ok (.ireturn, 1) := by decide +kernel
theorem dX10_told_200 : decode cX10_told 200 = .ok (.aload_n 0, 1) := by decide +kernel
theorem dX10_told_201 : decode cX10_told 201 = .ok (.getfield 19, 3) := by decide +kernel
theorem dX10_told_204 : decode cX10_told 204 = .ok (.getfield 143, 3) := by decide +kernel
theorem dX10_told_207 : decode cX10_told 207 = .ok (.ireturn, 1) := by decide +kernel
theorem dX10_told_208 : decode cX10_told 208 = .ok (.aload_n 0, 1) := by decide +kernel
theorem dX10_told_209 : decode cX10_told 209 = .ok (.getfield 50, 3) := by decide +kernel
theorem dX10_told_212 : decode cX10_told 212 = .ok (.getfield 100, 3) := by decide +kernel
theorem dX10_told_215 : decode cX10_told 215 = .ok (.ireturn, 1) := by decide +kernel
theorem dX10_told_216 : decode cX10_told 216 = .ok (.aload_n 0, 1) := by decide +kernel
theorem dX10_told_217 : decode cX10_told 217 = .ok (.getfield 57, 3) := by decide +kernel
theorem dX10_told_220 : decode cX10_told 220 = .ok (.getfield 101, 3) := by decide +kernel
theorem dX10_told_223 : decode cX10_told 223 = .ok (.ireturn, 1) := by decide +kernel
theorem dX10_told_224 : decode cX10_told 224 = .ok (.aload_n 0, 1) := by decide +kernel
theorem dX10_told_225 : decode cX10_told 225 = .ok (.getfield 26, 3) := by decide +kernel
theorem dX10_told_228 : decode cX10_told 228 = .ok (.getfield 95, 3) := by decide +kernel
theorem dX10_told_231 : decode cX10_told 231 = .ok (.ireturn, 1) := by decide +kernel
theorem dX10_told_232 : decode cX10_told 232 = .ok (.ldc 78, 2) := by decide +kernel
theorem dX10_told_234 : decode cX10_told 234 = .ok (.ireturn, 1) := by decide +kernel
theorem dX10_told_1 : decode cX10_told 1 = .ok (.tableswitch 231 0 16 #[83, 91, 99, 107, 115, 123, 131, 139, 147, 155, 175, 183, 191, 199, 207, 215, 223], 83) := by decide +kernel
theorem bX10_told (x : bo_X) (hx : bo_OK x cX10_told RX10 2 2 44) (σ : bo_M) (p1 : Int32) : bo_D x 0 [(0, .ref (bo_a x 0)), (1, .int p1)] [] σ (mX10_told σ p1) (bo_Ri x cX10_told σ false) := by
  unfold mX10_told
  refine bo_iload_n hx dX10_told_0 rfl 1 rfl ?_
  refine bo_by (fun c1 => ?_) (fun c1 => ?_)
  · refine bo_tabIn (v := 0) (off := 83) hx 84 dX10_told_1 c1 (by decide) (by decide) (by decide) (by decide) ?_
    refine bo_aload_n hx dX10_told_84 rfl 0 rfl ?_
    refine gf_X10_71 hx dX10_told_85 ?_
    refine gf_X10_108 hx (bo_inn_ok (σ 0 9)) dX10_told_88 ?_
    exact bo_ret dX10_told_91 (fun h => by cases h)
  · refine bo_by (fun c2 => ?_) (fun c2 => ?_)
    · refine bo_tabIn (v := 1) (off := 91) hx 92 dX10_told_1 c2 (by decide) (by decide) (by decide) (by decide) ?_
      refine bo_aload_n hx dX10_told_92 rfl 0 rfl ?_
      refine gf_X10_71 hx dX10_told_93 ?_
      refine gf_X10_111 hx (bo_inn_ok (σ 0 9)) dX10_told_96 ?_
      exact bo_ret dX10_told_99 (fun h => by cases h)
    · refine bo_by (fun c3 => ?_) (fun c3 => ?_)
      · refine bo_tabIn (v := 2) (off := 99) hx 100 dX10_told_1 c3 (by decide) (by decide) (by decide) (by decide) ?_
        refine bo_aload_n hx dX10_told_100 rfl 0 rfl ?_
        refine gf_X10_71 hx dX10_told_101 ?_
        refine gf_X10_102 hx (bo_inn_ok (σ 0 9)) dX10_told_104 ?_
        exact bo_ret dX10_told_107 (fun h => by cases h)
      · refine bo_by (fun c4 => ?_) (fun c4 => ?_)
        · refine bo_tabIn (v := 3) (off := 107) hx 108 dX10_told_1 c4 (by decide) (by decide) (by decide) (by decide) ?_
          refine bo_aload_n hx dX10_told_108 rfl 0 rfl ?_
          refine gf_X10_71 hx dX10_told_109 ?_
          refine gf_X10_114 hx (bo_inn_ok (σ 0 9)) dX10_told_112 ?_
          exact bo_ret dX10_told_115 (fun h => by cases h)
        · refine bo_by (fun c5 => ?_) (fun c5 => ?_)
          · refine bo_tabIn (v := 4) (off := 115) hx 116 dX10_told_1 c5 (by decide) (by decide) (by decide) (by decide) ?_
            refine bo_aload_n hx dX10_told_116 rfl 0 rfl ?_
            refine gf_X10_71 hx dX10_told_117 ?_
            refine gf_X10_117 hx (bo_inn_ok (σ 0 9)) dX10_told_120 ?_
            exact bo_ret dX10_told_123 (fun h => by cases h)
          · refine bo_by (fun c6 => ?_) (fun c6 => ?_)
            · refine bo_tabIn (v := 5) (off := 123) hx 124 dX10_told_1 c6 (by decide) (by decide) (by decide) (by decide) ?_
              refine bo_aload_n hx dX10_told_124 rfl 0 rfl ?_
              refine gf_X10_10 hx dX10_told_125 ?_
              refine gf_X10_83 hx dX10_told_128 ?_
              exact bo_ret dX10_told_131 (fun h => by cases h)
            · refine bo_by (fun c7 => ?_) (fun c7 => ?_)
              · refine bo_tabIn (v := 6) (off := 131) hx 132 dX10_told_1 c7 (by decide) (by decide) (by decide) (by decide) ?_
                refine bo_aload_n hx dX10_told_132 rfl 0 rfl ?_
                refine gf_X10_19 hx dX10_told_133 ?_
                refine gf_X10_120 hx bo_ev50 dX10_told_136 ?_
                exact bo_ret dX10_told_139 (fun h => by cases h)
              · refine bo_by (fun c8 => ?_) (fun c8 => ?_)
                · refine bo_tabIn (v := 7) (off := 139) hx 140 dX10_told_1 c8 (by decide) (by decide) (by decide) (by decide) ?_
                  refine bo_aload_n hx dX10_told_140 rfl 0 rfl ?_
                  refine gf_X10_19 hx dX10_told_141 ?_
                  refine gf_X10_123 hx bo_ev50 dX10_told_144 ?_
                  exact bo_ret dX10_told_147 (fun h => by cases h)
                · refine bo_by (fun c9 => ?_) (fun c9 => ?_)
                  · refine bo_tabIn (v := 8) (off := 147) hx 148 dX10_told_1 c9 (by decide) (by decide) (by decide) (by decide) ?_
                    refine bo_aload_n hx dX10_told_148 rfl 0 rfl ?_
                    refine gf_X10_19 hx dX10_told_149 ?_
                    refine gf_X10_126 hx bo_ev50 dX10_told_152 ?_
                    exact bo_ret dX10_told_155 (fun h => by cases h)
                  · refine bo_by (fun c10 => ?_) (fun c10 => ?_)
                    · refine bo_tabIn (v := 9) (off := 155) hx 156 dX10_told_1 c10 (by decide) (by decide) (by decide) (by decide) ?_
                      refine bo_aload_n hx dX10_told_156 rfl 0 rfl ?_
                      refine gf_X10_19 hx dX10_told_157 ?_
                      refine bo_aload_n hx dX10_told_160 rfl 0 rfl ?_
                      refine gf_X10_71 hx dX10_told_161 ?_
                      refine bo_goR (z := true) hx (fun rr hh => bo_runV (As := [.ref (bo_a x (bo_inn (σ 0 9)))]) (S := []) hx dX10_told_164 lk_X10_129 mi_X2_isWet bo_ev50.o rfl rfl (kX2_isWet (bo_l x) (bo_g x) hx.inj σ 50 (bo_inn (σ 0 9)) bo_ev50 (bo_inn_ok (σ 0 9)) rr hh) ⟨by decide, by decide⟩ rfl rfl (Nat.le_of_ble_eq_true rfl)) (fun v11 hv11 => ?_)
                      refine bo_if_eq hx 174 dX10_told_167 (by decide) ?_ ?_
                      · refine bo_iconst (v := 0) hx dX10_told_174 (by decide) ?_
                        exact bo_ret dX10_told_175 (fun h => by cases h)
                      · refine bo_iconst (v := 1) hx dX10_told_170 (by decide) ?_
                        refine bo_goto hx 175 dX10_told_171 (by decide) ?_
                        exact bo_ret dX10_told_175 (fun h => by cases h)
                    · refine bo_by (fun c12 => ?_) (fun c12 => ?_)
                      · refine bo_tabIn (v := 10) (off := 175) hx 176 dX10_told_1 c12 (by decide) (by decide) (by decide) (by decide) ?_
                        refine bo_aload_n hx dX10_told_176 rfl 0 rfl ?_
                        refine gf_X10_19 hx dX10_told_177 ?_
                        refine gf_X10_133 hx bo_ev50 dX10_told_180 ?_
                        exact bo_ret dX10_told_183 (fun h => by cases h)
                      · refine bo_by (fun c13 => ?_) (fun c13 => ?_)
                        · refine bo_tabIn (v := 11) (off := 183) hx 184 dX10_told_1 c13 (by decide) (by decide) (by decide) (by decide) ?_
                          refine bo_aload_n hx dX10_told_184 rfl 0 rfl ?_
                          refine gf_X10_19 hx dX10_told_185 ?_
                          refine gf_X10_136 hx bo_ev50 dX10_told_188 ?_
                          exact bo_ret dX10_told_191 (fun h => by cases h)
                        · refine bo_by (fun c14 => ?_) (fun c14 => ?_)
                          · refine bo_tabIn (v := 12) (off := 191) hx 192 dX10_told_1 c14 (by decide) (by decide) (by decide) (by decide) ?_
                            refine bo_aload_n hx dX10_told_192 rfl 0 rfl ?_
                            refine gf_X10_19 hx dX10_told_193 ?_
                            refine bo_goR (z := false) hx (fun rr hh => bo_runV (As := []) (S := []) hx dX10_told_196 lk_X10_139 mi_X2_logs bo_ev50.o rfl rfl (kX2_logs (bo_l x) (bo_g x) hx.inj σ 50 bo_ev50 rr hh) ⟨by decide, by decide⟩ rfl rfl (Nat.le_of_ble_eq_true rfl)) (fun v15 hv15 => ?_)
                            exact bo_ret dX10_told_199 (fun h => by cases h)
                          · refine bo_by (fun c16 => ?_) (fun c16 => ?_)
                            · refine bo_tabIn (v := 13) (off := 199) hx 200 dX10_told_1 c16 (by decide) (by decide) (by decide) (by decide) ?_
                              refine bo_aload_n hx dX10_told_200 rfl 0 rfl ?_
                              refine gf_X10_19 hx dX10_told_201 ?_
                              refine gf_X10_143 hx bo_ev50 dX10_told_204 ?_
                              exact bo_ret dX10_told_207 (fun h => by cases h)
                            · refine bo_by (fun c17 => ?_) (fun c17 => ?_)
                              · refine bo_tabIn (v := 14) (off := 207) hx 208 dX10_told_1 c17 (by decide) (by decide) (by decide) (by decide) ?_
                                refine bo_aload_n hx dX10_told_208 rfl 0 rfl ?_
                                refine gf_X10_50 hx dX10_told_209 ?_
                                refine gf_X10_100 hx dX10_told_212 ?_
                                exact bo_ret dX10_told_215 (fun h => by cases h)
                              · refine bo_by (fun c18 => ?_) (fun c18 => ?_)
                                · refine bo_tabIn (v := 15) (off := 215) hx 216 dX10_told_1 c18 (by decide) (by decide) (by decide) (by decide) ?_
                                  refine bo_aload_n hx dX10_told_216 rfl 0 rfl ?_
                                  refine gf_X10_57 hx dX10_told_217 ?_
                                  refine gf_X10_101 hx dX10_told_220 ?_
                                  exact bo_ret dX10_told_223 (fun h => by cases h)
                                · refine bo_by (fun c19 => ?_) (fun c19 => ?_)
                                  · refine bo_tabIn (v := 16) (off := 223) hx 224 dX10_told_1 c19 (by decide) (by decide) (by decide) (by decide) ?_
                                    refine bo_aload_n hx dX10_told_224 rfl 0 rfl ?_
                                    refine gf_X10_26 hx dX10_told_225 ?_
                                    refine gf_X10_95 hx dX10_told_228 ?_
                                    exact bo_ret dX10_told_231 (fun h => by cases h)
                                  · refine bo_tabOut hx 232 dX10_told_1 (by have e1 : (p1).toInt ≠ 0 := bo_ne_n c1 (by decide); have e2 : (p1).toInt ≠ 1 := bo_ne_n c2 (by decide); have e3 : (p1).toInt ≠ 2 := bo_ne_n c3 (by decide); have e4 : (p1).toInt ≠ 3 := bo_ne_n c4 (by decide); have e5 : (p1).toInt ≠ 4 := bo_ne_n c5 (by decide); have e6 : (p1).toInt ≠ 5 := bo_ne_n c6 (by decide); have e7 : (p1).toInt ≠ 6 := bo_ne_n c7 (by decide); have e8 : (p1).toInt ≠ 7 := bo_ne_n c8 (by decide); have e9 : (p1).toInt ≠ 8 := bo_ne_n c9 (by decide); have e10 : (p1).toInt ≠ 9 := bo_ne_n c10 (by decide); have e12 : (p1).toInt ≠ 10 := bo_ne_n c12 (by decide); have e13 : (p1).toInt ≠ 11 := bo_ne_n c13 (by decide); have e14 : (p1).toInt ≠ 12 := bo_ne_n c14 (by decide); have e16 : (p1).toInt ≠ 13 := bo_ne_n c16 (by decide); have e17 : (p1).toInt ≠ 14 := bo_ne_n c17 (by decide); have e18 : (p1).toInt ≠ 15 := bo_ne_n c18 (by decide); have e19 : (p1).toInt ≠ 16 := bo_ne_n c19 (by decide); omega) (by decide) ?_
                                    refine bo_ldc (v := (-1000000002)) hx dX10_told_232 wc_X10_78 ?_
                                    exact bo_ret dX10_told_234 (fun h => by cases h)
theorem kX10_told (l : Launch) (g : bo_G) (hi : bo_inj g) (σ : bo_M) (p1 : Int32) : bo_CR l g yX10_told cX10_told 2 (some .int) 2 44 [.ref (g.2.2 0), .int p1] σ false (mX10_told σ p1) :=
  bo_metR rfl (Or.inl ⟨rfl, rfl⟩) (by decide) rfl hi (Nat.le_of_ble_eq_true rfl) (fun x e1 e2 hx => by subst e1; subst e2; exact bX10_told x hx σ p1)
-- BellRope$Inn.hasDrinker
theorem dX4_hasDrinker_0 : decode cX4_hasDrinker 0 = .ok (.iload_n 1, 1) := by decide +kernel
theorem dX4_hasDrinker_16 : decode cX4_hasDrinker 16 = .ok (.iconst 0, 1) := by decide +kernel
theorem dX4_hasDrinker_17 : decode cX4_hasDrinker 17 = .ok (.ireturn, 1) := by decide +kernel
theorem dX4_hasDrinker_4 : decode cX4_hasDrinker 4 = .ok (.iload_n 1, 1) := by decide +kernel
theorem dX4_hasDrinker_5 : decode cX4_hasDrinker 5 = .ok (.aload_n 0, 1) := by decide +kernel
theorem dX4_hasDrinker_6 : decode cX4_hasDrinker 6 = .ok (.getfield 47, 3) := by decide +kernel
theorem dX4_hasDrinker_12 : decode cX4_hasDrinker 12 = .ok (.iconst 1, 1) := by decide +kernel
theorem dX4_hasDrinker_13 : decode cX4_hasDrinker 13 = .ok (.goto 4, 3) := by decide +kernel
theorem dX4_hasDrinker_9 : decode cX4_hasDrinker 9 = .ok (.if_icmp .ge 7, 3) := by decide +kernel
theorem dX4_hasDrinker_1 : decode cX4_hasDrinker 1 = .ok (.ifCond .lt 15, 3) := by decide +kernel
theorem bX4_hasDrinker (x : bo_X) (hx : bo_OK x cX4_hasDrinker RX4 2 0 0) (σ : bo_M) (o : Nat) (p1 : Int32) (ho : bo_isInn o) : bo_D x 0 [(0, .ref (bo_a x o)), (1, .int p1)] [] σ (mX4_hasDrinker σ o p1) (bo_Ri x cX4_hasDrinker σ true) := by
  unfold mX4_hasDrinker
  refine bo_iload_n hx dX4_hasDrinker_0 rfl 1 rfl ?_
  refine bo_if_lt hx 16 dX4_hasDrinker_1 (by decide) ?_ ?_
  · refine bo_iconst (v := 0) hx dX4_hasDrinker_16 (by decide) ?_
    exact bo_ret dX4_hasDrinker_17 (fun _ => bo_b_0)
  · refine bo_iload_n hx dX4_hasDrinker_4 rfl 1 rfl ?_
    refine bo_aload_n hx dX4_hasDrinker_5 rfl 0 rfl ?_
    refine gf_X4_47 hx ho dX4_hasDrinker_6 ?_
    refine bo_icmp_ge hx 16 dX4_hasDrinker_9 (by decide) ?_ ?_
    · refine bo_iconst (v := 0) hx dX4_hasDrinker_16 (by decide) ?_
      exact bo_ret dX4_hasDrinker_17 (fun _ => bo_b_0)
    · refine bo_iconst (v := 1) hx dX4_hasDrinker_12 (by decide) ?_
      refine bo_goto hx 17 dX4_hasDrinker_13 (by decide) ?_
      exact bo_ret dX4_hasDrinker_17 (fun _ => bo_b_1)
theorem kX4_hasDrinker (l : Launch) (g : bo_G) (hi : bo_inj g) (σ : bo_M) (o : Nat) (p1 : Int32) (ho : bo_isInn o) : bo_CR l g yX4_hasDrinker cX4_hasDrinker 2 (some .boolean) 0 0 [.ref (g.2.2 o), .int p1] σ true (mX4_hasDrinker σ o p1) :=
  bo_metR rfl (Or.inr ⟨rfl, rfl⟩) (by decide) rfl hi (Nat.le_of_ble_eq_true rfl) (fun x e1 e2 hx => by subst e1; subst e2; exact bX4_hasDrinker x hx σ o p1 ho)
-- BellRope$Evening.due
theorem dX2_due_0 : decode cX2_due 0 = .ok (.iconst 0, 1) := by decide +kernel
theorem dX2_due_1 : decode cX2_due 1 = .ok (.istore_n 3, 1) := by decide +kernel
theorem dX2_due_2 : decode cX2_due 2 = .ok (.iconst 0, 1) := by decide +kernel
theorem dX2_due_3 : decode cX2_due 3 = .ok (.istore 4, 2) := by decide +kernel
theorem dX2_due_5 : decode cX2_due 5 = .ok (.iload 4, 2) := by decide +kernel
theorem dX2_due_7 : decode cX2_due 7 = .ok (.aload_n 1, 1) := by decide +kernel
theorem dX2_due_8 : decode cX2_due 8 = .ok (.getfield 71, 3) := by decide +kernel
theorem dX2_due_14 : decode cX2_due 14 = .ok (.aload_n 1, 1) := by decide +kernel
theorem dX2_due_15 : decode cX2_due 15 = .ok (.getfield 74, 3) := by decide +kernel
theorem dX2_due_18 : decode cX2_due 18 = .ok (.iload 4, 2) := by decide +kernel
theorem dX2_due_20 : decode cX2_due 20 = .ok (.invokestatic 59, 3) := by decide +kernel
theorem dX2_due_23 : decode cX2_due 23 = .ok (.istore 5, 2) := by decide +kernel
theorem dX2_due_25 : decode cX2_due 25 = .ok (.iload 5, 2) := by decide +kernel
theorem dX2_due_30 : decode cX2_due 30 = .ok (.iload_n 2, 1) := by decide +kernel
theorem dX2_due_31 : decode cX2_due 31 = .ok (.aload_n 0, 1) := by decide +kernel
theorem dX2_due_32 : decode cX2_due 32 = .ok (.getfield 15, 3) := by decide +kernel
theorem dX2_due_35 : decode cX2_due 35 = .ok (.iload 4, 2) := by decide +kernel
theorem dX2_due_37 : decode cX2_due 37 = .ok (.invokestatic 59, 3) := by decide +kernel
theorem dX2_due_40 : decode cX2_due 40 = .ok (.iadd, 1) := by decide +kernel
theorem dX2_due_41 : decode cX2_due 41 = .ok (.iload 5, 2) := by decide +kernel
theorem dX2_due_43 : decode cX2_due 43 = .ok (.irem, 1) := by decide +kernel
theorem dX2_due_47 : decode cX2_due 47 = .ok (.iload_n 3, 1) := by decide +kernel
theorem dX2_due_48 : decode cX2_due 48 = .ok (.iconst 1, 1) := by decide +kernel
theorem dX2_due_49 : decode cX2_due 49 = .ok (.iload 4, 2) := by decide +kernel
theorem dX2_due_51 : decode cX2_due 51 = .ok (.ishl, 1) := by decide +kernel
theorem dX2_due_52 : decode cX2_due 52 = .ok (.ior, 1) := by decide +kernel
theorem dX2_due_53 : decode cX2_due 53 = .ok (.istore_n 3, 1) := by decide +kernel
theorem dX2_due_44 : decode cX2_due 44 = .ok (.ifCond .ne 10, 3) := by decide +kernel
theorem dX2_due_27 : decode cX2_due 27 = .ok (.ifCond .le 27, 3) := by decide +kernel
theorem dX2_due_54 : decode cX2_due 54 = .ok (.iinc 4 1, 3) := by decide +kernel
theorem dX2_due_57 : decode cX2_due 57 = .ok (.goto (-52), 3) := by decide +kernel
theorem dX2_due_11 : decode cX2_due 11 = .ok (.if_icmp .ge 49, 3) := by decide +kernel
theorem dX2_due_60 : decode cX2_due 60 = .ok (.iload_n 3, 1) := by decide +kernel
theorem dX2_due_61 : decode cX2_due 61 = .ok (.ireturn, 1) := by decide +kernel
theorem lX2_due_L5 (x : bo_X) (hx : bo_OK x cX2_due RX2 6 1 21) (σ : bo_M) (f0 : Nat) (f1 : Nat) (f2 : Int32) (hf0 : bo_isEv f0) (hf1 : bo_isInn f1) : ∀ (n : Nat) (w3 : Int32) (w4 : Int32), bo_D x 5 [(0, .ref (bo_a x f0)), (1, .ref (bo_a x f1)), (2, .int f2), (3, .int w3), (4, .int w4)] [] σ (mX2_due_L5 σ f0 f1 f2 n w3 w4) (fun a => bo_N x 60 [(3, .int a)] [] σ) := by
  intro n
  induction n with
  | zero => intro w3 w4; exact bo_none
  | succ n ih =>
    intro w3 w4
    rw [mX2_due_L5]
    refine bo_iload hx dX2_due_5 4 rfl ?_
    refine bo_aload_n hx dX2_due_7 rfl 1 rfl ?_
    refine gf_X2_71 hx hf1 dX2_due_8 ?_
    refine bo_icmp_ge hx 60 dX2_due_11 (by decide) ?_ ?_
    · refine bo_sub (L' := [(3, .int w3)]) [3] rfl ?_
      exact bo_arr (fun h => h)
    · refine bo_aload_n hx dX2_due_14 rfl 1 rfl ?_
      refine gf_X2_74 hx hf1 dX2_due_15 ?_
      refine bo_iload hx dX2_due_18 4 rfl ?_
      refine bo_goR (z := false) hx (fun rr hh => bo_runS (As := [.ref (bo_a x (f1 + 1)), .int w4]) (S := []) hx dX2_due_20 lk_X2_59 ms_X8_at (kX8_at (bo_l x) (bo_g x) hx.inj σ 7 (f1 + 1) w4 hf1.a1 rr hh) ⟨by decide, by decide⟩ rfl rfl (Nat.le_of_ble_eq_true rfl)) (fun v1 hv1 => ?_)
      refine bo_istore (L' := [(5, .int v1), (0, .ref (bo_a x f0)), (1, .ref (bo_a x f1)), (2, .int f2), (3, .int w3), (4, .int w4)]) hx dX2_due_23 (by decide) rfl ?_
      refine bo_iload hx dX2_due_25 0 rfl ?_
      refine bo_seq 54 (fun a => [(0, .ref (bo_a x f0)), (1, .ref (bo_a x f1)), (2, .int f2), (3, .int a), (4, .int w4)]) (fun a => []) (fun a => σ) ?_ (fun a2 => ?_)
      · refine bo_if_le hx 54 dX2_due_27 (by decide) ?_ ?_
        · refine bo_sub (L' := [(0, .ref (bo_a x f0)), (1, .ref (bo_a x f1)), (2, .int f2), (3, .int w3), (4, .int w4)]) [1, 2, 3, 4, 5] rfl ?_
          exact bo_arr (fun h => h)
        · refine bo_iload_n hx dX2_due_30 rfl 3 rfl ?_
          refine bo_aload_n hx dX2_due_31 rfl 1 rfl ?_
          refine gf_X2_15 hx hf0 dX2_due_32 ?_
          refine bo_iload hx dX2_due_35 5 rfl ?_
          refine bo_goR (z := false) hx (fun rr hh => bo_runS (As := [.ref (bo_a x (f0 + 2)), .int w4]) (S := [.int f2]) hx dX2_due_37 lk_X2_59 ms_X8_at (kX8_at (bo_l x) (bo_g x) hx.inj σ 7 (f0 + 2) w4 hf0.a2 rr hh) ⟨by decide, by decide⟩ rfl rfl (Nat.le_of_ble_eq_true rfl)) (fun v3 hv3 => ?_)
          refine bo_iadd hx dX2_due_40 ?_
          refine bo_iload hx dX2_due_41 0 rfl ?_
          refine bo_irem hx dX2_due_43 (fun v4 => ?_)
          refine bo_if_ne hx 54 dX2_due_44 (by decide) ?_ ?_
          · refine bo_sub (L' := [(0, .ref (bo_a x f0)), (1, .ref (bo_a x f1)), (2, .int f2), (3, .int w3), (4, .int w4)]) [1, 2, 3, 4, 5] rfl ?_
            exact bo_arr (fun h => h)
          · refine bo_iload_n hx dX2_due_47 rfl 4 rfl ?_
            refine bo_iconst (v := 1) hx dX2_due_48 (by decide) ?_
            refine bo_iload hx dX2_due_49 5 rfl ?_
            refine bo_ishl hx dX2_due_51 ?_
            refine bo_ior hx dX2_due_52 ?_
            refine bo_istore_n (L' := [(3, .int (w3 ||| (1 <<< (w4 &&& 31)))), (5, .int v1), (0, .ref (bo_a x f0)), (1, .ref (bo_a x f1)), (2, .int f2), (4, .int w4)]) hx dX2_due_53 rfl (by decide) rfl ?_
            refine bo_sub (L' := [(0, .ref (bo_a x f0)), (1, .ref (bo_a x f1)), (2, .int f2), (3, .int (w3 ||| (1 <<< (w4 &&& 31)))), (4, .int w4)]) [2, 3, 4, 0, 5] rfl ?_
            exact bo_arr (fun h => h)
      · refine bo_iinc (L' := [(4, .int (w4 + 1)), (0, .ref (bo_a x f0)), (1, .ref (bo_a x f1)), (2, .int f2), (3, .int a2)]) (w := (w4 + 1)) hx dX2_due_54 4 rfl rfl (by decide) rfl ?_
        refine bo_goto hx 5 dX2_due_57 (by decide) ?_
        refine bo_sub (L' := [(0, .ref (bo_a x f0)), (1, .ref (bo_a x f1)), (2, .int f2), (3, .int a2), (4, .int (w4 + 1))]) [1, 2, 3, 4, 0] rfl ?_
        exact ih a2 (w4 + 1)
theorem bX2_due (x : bo_X) (hx : bo_OK x cX2_due RX2 6 1 21) (σ : bo_M) (o : Nat) (r1 : Nat) (p2 : Int32) (ho : bo_isEv o) (hr1 : bo_isInn r1) : bo_D x 0 [(0, .ref (bo_a x o)), (1, .ref (bo_a x r1)), (2, .int p2)] [] σ (mX2_due σ o r1 p2) (bo_Ri x cX2_due σ false) := by
  unfold mX2_due
  refine bo_iconst (v := 0) hx dX2_due_0 (by decide) ?_
  refine bo_istore_n (L' := [(3, .int 0), (0, .ref (bo_a x o)), (1, .ref (bo_a x r1)), (2, .int p2)]) hx dX2_due_1 rfl (by decide) rfl ?_
  refine bo_iconst (v := 0) hx dX2_due_2 (by decide) ?_
  refine bo_istore (L' := [(4, .int 0), (3, .int 0), (0, .ref (bo_a x o)), (1, .ref (bo_a x r1)), (2, .int p2)]) hx dX2_due_3 (by decide) rfl ?_
  refine bo_sub (L' := [(0, .ref (bo_a x o)), (1, .ref (bo_a x r1)), (2, .int p2), (3, .int 0), (4, .int 0)]) [2, 3, 4, 1, 0] rfl ?_
  refine bo_seq 60 (fun a => [(3, .int a)]) (fun a => []) (fun a => σ) (lX2_due_L5 x hx σ o r1 p2 ho hr1 bo_fuel 0 0) (fun a5 => ?_)
  refine bo_iload_n hx dX2_due_60 rfl 0 rfl ?_
  exact bo_ret dX2_due_61 (fun h => by cases h)
theorem kX2_due (l : Launch) (g : bo_G) (hi : bo_inj g) (σ : bo_M) (o : Nat) (r1 : Nat) (p2 : Int32) (ho : bo_isEv o) (hr1 : bo_isInn r1) : bo_CR l g yX2_due cX2_due 6 (some .int) 1 21 [.ref (g.2.2 o), .ref (g.2.2 r1), .int p2] σ false (mX2_due σ o r1 p2) :=
  bo_metR rfl (Or.inl ⟨rfl, rfl⟩) (by decide) rfl hi (Nat.le_of_ble_eq_true rfl) (fun x e1 e2 hx => by subst e1; subst e2; exact bX2_due x hx σ o r1 p2 ho hr1)
-- BellRope$Evening.startsDay
theorem dX2_startsDay_0 : decode cX2_startsDay 0 = .ok (.aload_n 0, 1) := by decide +kernel
theorem dX2_startsDay_1 : decode cX2_startsDay 1 = .ok (.getfield 24, 3) := by decide +kernel
theorem dX2_startsDay_4 : decode cX2_startsDay 4 = .ok (.bipush 96, 2) := by decide +kernel
theorem dX2_startsDay_6 : decode cX2_startsDay 6 = .ok (.irem, 1) := by decide +kernel
theorem dX2_startsDay_14 : decode cX2_startsDay 14 = .ok (.iconst 0, 1) := by decide +kernel
theorem dX2_startsDay_15 : decode cX2_startsDay 15 = .ok (.ireturn, 1) := by decide +kernel
theorem dX2_startsDay_10 : decode cX2_startsDay 10 = .ok (.iconst 1, 1) := by decide +kernel
theorem dX2_startsDay_11 : decode cX2_startsDay 11 = .ok (.goto 4, 3) := by decide +kernel
theorem dX2_startsDay_7 : decode cX2_startsDay 7 = .ok (.ifCond .ne 7, 3) := by decide +kernel
theorem bX2_startsDay (x : bo_X) (hx : bo_OK x cX2_startsDay RX2 1 0 0) (σ : bo_M) (o : Nat) (ho : bo_isEv o) : bo_D x 0 [(0, .ref (bo_a x o))] [] σ (mX2_startsDay σ o) (bo_Ri x cX2_startsDay σ true) := by
  unfold mX2_startsDay
  refine bo_aload_n hx dX2_startsDay_0 rfl 0 rfl ?_
  refine gf_X2_24 hx ho dX2_startsDay_1 ?_
  refine bo_bipush (v := 96) hx dX2_startsDay_4 (by decide) ?_
  refine bo_iremc hx dX2_startsDay_6 (by decide) ?_
  refine bo_if_ne hx 14 dX2_startsDay_7 (by decide) ?_ ?_
  · refine bo_iconst (v := 0) hx dX2_startsDay_14 (by decide) ?_
    exact bo_ret dX2_startsDay_15 (fun _ => bo_b_0)
  · refine bo_iconst (v := 1) hx dX2_startsDay_10 (by decide) ?_
    refine bo_goto hx 15 dX2_startsDay_11 (by decide) ?_
    exact bo_ret dX2_startsDay_15 (fun _ => bo_b_1)
theorem kX2_startsDay (l : Launch) (g : bo_G) (hi : bo_inj g) (σ : bo_M) (o : Nat) (ho : bo_isEv o) : bo_CR l g yX2_startsDay cX2_startsDay 1 (some .boolean) 0 0 [.ref (g.2.2 o)] σ true (mX2_startsDay σ o) :=
  bo_metR rfl (Or.inr ⟨rfl, rfl⟩) (by decide) rfl hi (Nat.le_of_ble_eq_true rfl) (fun x e1 e2 hx => by subst e1; subst e2; exact bX2_startsDay x hx σ o ho)
-- BellRope$Evening.full
theorem dX2_full_0 : decode cX2_full 0 = .ok (.iconst 0, 1) := by decide +kernel
theorem dX2_full_1 : decode cX2_full 1 = .ok (.istore_n 2, 1) := by decide +kernel
theorem dX2_full_2 : decode cX2_full 2 = .ok (.aload_n 0, 1) := by decide +kernel
theorem dX2_full_3 : decode cX2_full 3 = .ok (.invokevirtual 77, 3) := by decide +kernel
theorem dX2_full_11 : decode cX2_full 11 = .ok (.iconst 0, 1) := by decide +kernel
theorem dX2_full_12 : decode cX2_full 12 = .ok (.istore_n 3, 1) := by decide +kernel
theorem dX2_full_13 : decode cX2_full 13 = .ok (.iload_n 3, 1) := by decide +kernel
theorem dX2_full_14 : decode cX2_full 14 = .ok (.aload_n 1, 1) := by decide +kernel
theorem dX2_full_15 : decode cX2_full 15 = .ok (.getfield 71, 3) := by decide +kernel
theorem dX2_full_21 : decode cX2_full 21 = .ok (.aload_n 0, 1) := by decide +kernel
theorem dX2_full_22 : decode cX2_full 22 = .ok (.getfield 9, 3) := by decide +kernel
theorem dX2_full_25 : decode cX2_full 25 = .ok (.iload_n 3, 1) := by decide +kernel
theorem dX2_full_26 : decode cX2_full 26 = .ok (.invokestatic 59, 3) := by decide +kernel
theorem dX2_full_29 : decode cX2_full 29 = .ok (.aload_n 1, 1) := by decide +kernel
theorem dX2_full_30 : decode cX2_full 30 = .ok (.getfield 81, 3) := by decide +kernel
theorem dX2_full_33 : decode cX2_full 33 = .ok (.iload_n 3, 1) := by decide +kernel
theorem dX2_full_34 : decode cX2_full 34 = .ok (.invokestatic 59, 3) := by decide +kernel
theorem dX2_full_40 : decode cX2_full 40 = .ok (.iload_n 2, 1) := by decide +kernel
theorem dX2_full_41 : decode cX2_full 41 = .ok (.iconst 1, 1) := by decide +kernel
theorem dX2_full_42 : decode cX2_full 42 = .ok (.iload_n 3, 1) := by decide +kernel
theorem dX2_full_43 : decode cX2_full 43 = .ok (.ishl, 1) := by decide +kernel
theorem dX2_full_44 : decode cX2_full 44 = .ok (.ior, 1) := by decide +kernel
theorem dX2_full_45 : decode cX2_full 45 = .ok (.istore_n 2, 1) := by decide +kernel
theorem dX2_full_37 : decode cX2_full 37 = .ok (.if_icmp .lt 9, 3) := by decide +kernel
theorem dX2_full_46 : decode cX2_full 46 = .ok (.iinc 3 1, 3) := by decide +kernel
theorem dX2_full_49 : decode cX2_full 49 = .ok (.goto (-36), 3) := by decide +kernel
theorem dX2_full_18 : decode cX2_full 18 = .ok (.if_icmp .ge 34, 3) := by decide +kernel
theorem dX2_full_52 : decode cX2_full 52 = .ok (.iload_n 2, 1) := by decide +kernel
theorem dX2_full_53 : decode cX2_full 53 = .ok (.ireturn, 1) := by decide +kernel
theorem dX2_full_9 : decode cX2_full 9 = .ok (.iload_n 2, 1) := by decide +kernel
theorem dX2_full_10 : decode cX2_full 10 = .ok (.ireturn, 1) := by decide +kernel
theorem dX2_full_6 : decode cX2_full 6 = .ok (.ifCond .eq 5, 3) := by decide +kernel
theorem lX2_full_L13 (x : bo_X) (hx : bo_OK x cX2_full RX2 4 1 21) (σ : bo_M) (f0 : Nat) (f1 : Nat) (hf0 : bo_isEv f0) (hf1 : bo_isInn f1) : ∀ (n : Nat) (w2 : Int32) (w3 : Int32), bo_D x 13 [(0, .ref (bo_a x f0)), (1, .ref (bo_a x f1)), (2, .int w2), (3, .int w3)] [] σ (mX2_full_L13 σ f0 f1 n w2 w3) (fun a => bo_N x 52 [(2, .int a)] [] σ) := by
  intro n
  induction n with
  | zero => intro w2 w3; exact bo_none
  | succ n ih =>
    intro w2 w3
    rw [mX2_full_L13]
    refine bo_iload_n hx dX2_full_13 rfl 3 rfl ?_
    refine bo_aload_n hx dX2_full_14 rfl 1 rfl ?_
    refine gf_X2_71 hx hf1 dX2_full_15 ?_
    refine bo_icmp_ge hx 52 dX2_full_18 (by decide) ?_ ?_
    · refine bo_sub (L' := [(2, .int w2)]) [2] rfl ?_
      exact bo_arr (fun h => h)
    · refine bo_aload_n hx dX2_full_21 rfl 0 rfl ?_
      refine gf_X2_9 hx hf0 dX2_full_22 ?_
      refine bo_iload_n hx dX2_full_25 rfl 3 rfl ?_
      refine bo_goR (z := false) hx (fun rr hh => bo_runS (As := [.ref (bo_a x (f0 + 1)), .int w3]) (S := []) hx dX2_full_26 lk_X2_59 ms_X8_at (kX8_at (bo_l x) (bo_g x) hx.inj σ 7 (f0 + 1) w3 hf0.a1 rr hh) ⟨by decide, by decide⟩ rfl rfl (Nat.le_of_ble_eq_true rfl)) (fun v2 hv2 => ?_)
      refine bo_aload_n hx dX2_full_29 rfl 1 rfl ?_
      refine gf_X2_81 hx hf1 dX2_full_30 ?_
      refine bo_iload_n hx dX2_full_33 rfl 3 rfl ?_
      refine bo_goR (z := false) hx (fun rr hh => bo_runS (As := [.ref (bo_a x (f1 + 2)), .int w3]) (S := [.int v2]) hx dX2_full_34 lk_X2_59 ms_X8_at (kX8_at (bo_l x) (bo_g x) hx.inj σ 7 (f1 + 2) w3 hf1.a2 rr hh) ⟨by decide, by decide⟩ rfl rfl (Nat.le_of_ble_eq_true rfl)) (fun v3 hv3 => ?_)
      refine bo_seq 46 (fun a => [(0, .ref (bo_a x f0)), (1, .ref (bo_a x f1)), (2, .int a), (3, .int w3)]) (fun a => []) (fun a => σ) ?_ (fun a4 => ?_)
      · refine bo_icmp_lt hx 46 dX2_full_37 (by decide) ?_ ?_
        · exact bo_arr (fun h => h)
        · refine bo_iload_n hx dX2_full_40 rfl 2 rfl ?_
          refine bo_iconst (v := 1) hx dX2_full_41 (by decide) ?_
          refine bo_iload_n hx dX2_full_42 rfl 3 rfl ?_
          refine bo_ishl hx dX2_full_43 ?_
          refine bo_ior hx dX2_full_44 ?_
          refine bo_istore_n (L' := [(2, .int (w2 ||| (1 <<< (w3 &&& 31)))), (0, .ref (bo_a x f0)), (1, .ref (bo_a x f1)), (3, .int w3)]) hx dX2_full_45 rfl (by decide) rfl ?_
          refine bo_sub (L' := [(0, .ref (bo_a x f0)), (1, .ref (bo_a x f1)), (2, .int (w2 ||| (1 <<< (w3 &&& 31)))), (3, .int w3)]) [1, 2, 0, 3] rfl ?_
          exact bo_arr (fun h => h)
      · refine bo_iinc (L' := [(3, .int (w3 + 1)), (0, .ref (bo_a x f0)), (1, .ref (bo_a x f1)), (2, .int a4)]) (w := (w3 + 1)) hx dX2_full_46 3 rfl rfl (by decide) rfl ?_
        refine bo_goto hx 13 dX2_full_49 (by decide) ?_
        refine bo_sub (L' := [(0, .ref (bo_a x f0)), (1, .ref (bo_a x f1)), (2, .int a4), (3, .int (w3 + 1))]) [1, 2, 3, 0] rfl ?_
        exact ih a4 (w3 + 1)
theorem bX2_full (x : bo_X) (hx : bo_OK x cX2_full RX2 4 1 21) (σ : bo_M) (o : Nat) (r1 : Nat) (ho : bo_isEv o) (hr1 : bo_isInn r1) : bo_D x 0 [(0, .ref (bo_a x o)), (1, .ref (bo_a x r1))] [] σ (mX2_full σ o r1) (bo_Ri x cX2_full σ false) := by
  unfold mX2_full
  refine bo_iconst (v := 0) hx dX2_full_0 (by decide) ?_
  refine bo_istore_n (L' := [(2, .int 0), (0, .ref (bo_a x o)), (1, .ref (bo_a x r1))]) hx dX2_full_1 rfl (by decide) rfl ?_
  refine bo_aload_n hx dX2_full_2 rfl 1 rfl ?_
  refine bo_goR (z := true) hx (fun rr hh => bo_runV (As := []) (S := []) hx dX2_full_3 lk_X2_77 mi_X2_startsDay ho.o rfl rfl (kX2_startsDay (bo_l x) (bo_g x) hx.inj σ o ho rr hh) ⟨by decide, by decide⟩ rfl rfl (Nat.le_of_ble_eq_true rfl)) (fun v1 hv1 => ?_)
  refine bo_if_eq hx 11 dX2_full_6 (by decide) ?_ ?_
  · refine bo_iconst (v := 0) hx dX2_full_11 (by decide) ?_
    refine bo_istore_n (L' := [(3, .int 0), (2, .int 0), (0, .ref (bo_a x o)), (1, .ref (bo_a x r1))]) hx dX2_full_12 rfl (by decide) rfl ?_
    refine bo_sub (L' := [(0, .ref (bo_a x o)), (1, .ref (bo_a x r1)), (2, .int 0), (3, .int 0)]) [2, 3, 1, 0] rfl ?_
    refine bo_seq 52 (fun a => [(2, .int a)]) (fun a => []) (fun a => σ) (lX2_full_L13 x hx σ o r1 ho hr1 bo_fuel 0 0) (fun a5 => ?_)
    refine bo_iload_n hx dX2_full_52 rfl 0 rfl ?_
    exact bo_ret dX2_full_53 (fun h => by cases h)
  · refine bo_iload_n hx dX2_full_9 rfl 0 rfl ?_
    exact bo_ret dX2_full_10 (fun h => by cases h)
theorem kX2_full (l : Launch) (g : bo_G) (hi : bo_inj g) (σ : bo_M) (o : Nat) (r1 : Nat) (ho : bo_isEv o) (hr1 : bo_isInn r1) : bo_CR l g yX2_full cX2_full 4 (some .int) 1 21 [.ref (g.2.2 o), .ref (g.2.2 r1)] σ false (mX2_full σ o r1) :=
  bo_metR rfl (Or.inl ⟨rfl, rfl⟩) (by decide) rfl hi (Nat.le_of_ble_eq_true rfl) (fun x e1 e2 hx => by subst e1; subst e2; exact bX2_full x hx σ o r1 ho hr1)
-- BellRope$Evening.thirsty
theorem dX2_thirsty_0 : decode cX2_thirsty 0 = .ok (.aload_n 0, 1) := by decide +kernel
theorem dX2_thirsty_1 : decode cX2_thirsty 1 = .ok (.aload_n 1, 1) := by decide +kernel
theorem dX2_thirsty_2 : decode cX2_thirsty 2 = .ok (.aload_n 0, 1) := by decide +kernel
theorem dX2_thirsty_3 : decode cX2_thirsty 3 = .ok (.getfield 24, 3) := by decide +kernel
theorem dX2_thirsty_6 : decode cX2_thirsty 6 = .ok (.invokevirtual 84, 3) := by decide +kernel
theorem dX2_thirsty_9 : decode cX2_thirsty 9 = .ok (.aload_n 0, 1) := by decide +kernel
theorem dX2_thirsty_10 : decode cX2_thirsty 10 = .ok (.getfield 28, 3) := by decide +kernel
theorem dX2_thirsty_13 : decode cX2_thirsty 13 = .ok (.iand, 1) := by decide +kernel
theorem dX2_thirsty_14 : decode cX2_thirsty 14 = .ok (.aload_n 0, 1) := by decide +kernel
theorem dX2_thirsty_15 : decode cX2_thirsty 15 = .ok (.aload_n 1, 1) := by decide +kernel
theorem dX2_thirsty_16 : decode cX2_thirsty 16 = .ok (.invokevirtual 88, 3) := by decide +kernel
theorem dX2_thirsty_19 : decode cX2_thirsty 19 = .ok (.iconst (-1), 1) := by decide +kernel
theorem dX2_thirsty_20 : decode cX2_thirsty 20 = .ok (.ixor, 1) := by decide +kernel
theorem dX2_thirsty_21 : decode cX2_thirsty 21 = .ok (.iand, 1) := by decide +kernel
theorem dX2_thirsty_22 : decode cX2_thirsty 22 = .ok (.ireturn, 1) := by decide +kernel
theorem bX2_thirsty (x : bo_X) (hx : bo_OK x cX2_thirsty RX2 2 2 46) (σ : bo_M) (o : Nat) (r1 : Nat) (ho : bo_isEv o) (hr1 : bo_isInn r1) : bo_D x 0 [(0, .ref (bo_a x o)), (1, .ref (bo_a x r1))] [] σ (mX2_thirsty σ o r1) (bo_Ri x cX2_thirsty σ false) := by
  unfold mX2_thirsty
  refine bo_aload_n hx dX2_thirsty_0 rfl 0 rfl ?_
  refine bo_aload_n hx dX2_thirsty_1 rfl 1 rfl ?_
  refine bo_aload_n hx dX2_thirsty_2 rfl 0 rfl ?_
  refine gf_X2_24 hx ho dX2_thirsty_3 ?_
  refine bo_goR (z := false) hx (fun rr hh => bo_runV (As := [.ref (bo_a x r1), .int (σ o 4)]) (S := []) hx dX2_thirsty_6 lk_X2_84 mi_X2_due ho.o rfl rfl (kX2_due (bo_l x) (bo_g x) hx.inj σ o r1 (σ o 4) ho hr1 rr hh) ⟨by decide, by decide⟩ rfl rfl (Nat.le_of_ble_eq_true rfl)) (fun v1 hv1 => ?_)
  refine bo_aload_n hx dX2_thirsty_9 rfl 0 rfl ?_
  refine gf_X2_28 hx ho dX2_thirsty_10 ?_
  refine bo_iand hx dX2_thirsty_13 ?_
  refine bo_aload_n hx dX2_thirsty_14 rfl 0 rfl ?_
  refine bo_aload_n hx dX2_thirsty_15 rfl 1 rfl ?_
  refine bo_goR (z := false) hx (fun rr hh => bo_runV (As := [.ref (bo_a x r1)]) (S := [.int (v1 &&& (σ o 5))]) hx dX2_thirsty_16 lk_X2_88 mi_X2_full ho.o rfl rfl (kX2_full (bo_l x) (bo_g x) hx.inj σ o r1 ho hr1 rr hh) ⟨by decide, by decide⟩ rfl rfl (Nat.le_of_ble_eq_true rfl)) (fun v2 hv2 => ?_)
  refine bo_iconst (v := (-1)) hx dX2_thirsty_19 (by decide) ?_
  refine bo_ixor hx dX2_thirsty_20 ?_
  refine bo_iand hx dX2_thirsty_21 ?_
  exact bo_ret dX2_thirsty_22 (fun h => by cases h)
theorem kX2_thirsty (l : Launch) (g : bo_G) (hi : bo_inj g) (σ : bo_M) (o : Nat) (r1 : Nat) (ho : bo_isEv o) (hr1 : bo_isInn r1) : bo_CR l g yX2_thirsty cX2_thirsty 2 (some .int) 2 46 [.ref (g.2.2 o), .ref (g.2.2 r1)] σ false (mX2_thirsty σ o r1) :=
  bo_metR rfl (Or.inl ⟨rfl, rfl⟩) (by decide) rfl hi (Nat.le_of_ble_eq_true rfl) (fun x e1 e2 hx => by subst e1; subst e2; exact bX2_thirsty x hx σ o r1 ho hr1)
-- BellRope.drinker
theorem dX10_drinker_0 : decode cX10_drinker 0 = .ok (.aload_n 0, 1) := by decide +kernel
theorem dX10_drinker_1 : decode cX10_drinker 1 = .ok (.getfield 71, 3) := by decide +kernel
theorem dX10_drinker_4 : decode cX10_drinker 4 = .ok (.iload_n 1, 1) := by decide +kernel
theorem dX10_drinker_5 : decode cX10_drinker 5 = .ok (.invokevirtual 146, 3) := by decide +kernel
theorem dX10_drinker_14 : decode cX10_drinker 14 = .ok (.iload_n 2, 1) := by decide +kernel
theorem dX10_drinker_56 : decode cX10_drinker 56 = .ok (.aload_n 0, 1) := by decide +kernel
theorem dX10_drinker_57 : decode cX10_drinker 57 = .ok (.getfield 71, 3) := by decide +kernel
theorem dX10_drinker_60 : decode cX10_drinker 60 = .ok (.getfield 150, 3) := by decide +kernel
theorem dX10_drinker_63 : decode cX10_drinker 63 = .ok (.iload_n 1, 1) := by decide +kernel
theorem dX10_drinker_64 : decode cX10_drinker 64 = .ok (.invokestatic 154, 3) := by decide +kernel
theorem dX10_drinker_67 : decode cX10_drinker 67 = .ok (.ireturn, 1) := by decide +kernel
theorem dX10_drinker_68 : decode cX10_drinker 68 = .ok (.aload_n 0, 1) := by decide +kernel
theorem dX10_drinker_69 : decode cX10_drinker 69 = .ok (.getfield 71, 3) := by decide +kernel
theorem dX10_drinker_72 : decode cX10_drinker 72 = .ok (.getfield 160, 3) := by decide +kernel
theorem dX10_drinker_75 : decode cX10_drinker 75 = .ok (.iload_n 1, 1) := by decide +kernel
theorem dX10_drinker_76 : decode cX10_drinker 76 = .ok (.invokestatic 154, 3) := by decide +kernel
theorem dX10_drinker_79 : decode cX10_drinker 79 = .ok (.ireturn, 1) := by decide +kernel
theorem dX10_drinker_80 : decode cX10_drinker 80 = .ok (.aload_n 0, 1) := by decide +kernel
theorem dX10_drinker_81 : decode cX10_drinker 81 = .ok (.getfield 71, 3) := by decide +kernel
theorem dX10_drinker_84 : decode cX10_drinker 84 = .ok (.getfield 163, 3) := by decide +kernel
theorem dX10_drinker_87 : decode cX10_drinker 87 = .ok (.iload_n 1, 1) := by decide +kernel
theorem dX10_drinker_88 : decode cX10_drinker 88 = .ok (.invokestatic 154, 3) := by decide +kernel
theorem dX10_drinker_91 : decode cX10_drinker 91 = .ok (.ireturn, 1) := by decide +kernel
theorem dX10_drinker_92 : decode cX10_drinker 92 = .ok (.aload_n 0, 1) := by decide +kernel
theorem dX10_drinker_93 : decode cX10_drinker 93 = .ok (.getfield 19, 3) := by decide +kernel
theorem dX10_drinker_96 : decode cX10_drinker 96 = .ok (.getfield 123, 3) := by decide +kernel
theorem dX10_drinker_99 : decode cX10_drinker 99 = .ok (.iload_n 1, 1) := by decide +kernel
theorem dX10_drinker_100 : decode cX10_drinker 100 = .ok (.invokestatic 166, 3) := by decide +kernel
theorem dX10_drinker_103 : decode cX10_drinker 103 = .ok (.ireturn, 1) := by decide +kernel
theorem dX10_drinker_104 : decode cX10_drinker 104 = .ok (.aload_n 0, 1) := by decide +kernel
theorem dX10_drinker_105 : decode cX10_drinker 105 = .ok (.getfield 19, 3) := by decide +kernel
theorem dX10_drinker_108 : decode cX10_drinker 108 = .ok (.getfield 170, 3) := by decide +kernel
theorem dX10_drinker_111 : decode cX10_drinker 111 = .ok (.iload_n 1, 1) := by decide +kernel
theorem dX10_drinker_112 : decode cX10_drinker 112 = .ok (.invokestatic 154, 3) := by decide +kernel
theorem dX10_drinker_115 : decode cX10_drinker 115 = .ok (.ireturn, 1) := by decide +kernel
theorem dX10_drinker_116 : decode cX10_drinker 116 = .ok (.aload_n 0, 1) := by decide +kernel
theorem dX10_drinker_117 : decode cX10_drinker 117 = .ok (.getfield 19, 3) := by decide +kernel
theorem dX10_drinker_120 : decode cX10_drinker 120 = .ok (.getfield 173, 3) := by decide +kernel
theorem dX10_drinker_123 : decode cX10_drinker 123 = .ok (.iload_n 1, 1) := by decide +kernel
theorem dX10_drinker_124 : decode cX10_drinker 124 = .ok (.invokestatic 154, 3) := by decide +kernel
theorem dX10_drinker_127 : decode cX10_drinker 127 = .ok (.ireturn, 1) := by decide +kernel
theorem dX10_drinker_128 : decode cX10_drinker 128 = .ok (.aload_n 0, 1) := by decide +kernel
theorem dX10_drinker_129 : decode cX10_drinker 129 = .ok (.getfield 19, 3) := by decide +kernel
theorem dX10_drinker_132 : decode cX10_drinker 132 = .ok (.aload_n 0, 1) := by decide +kernel
theorem dX10_drinker_133 : decode cX10_drinker 133 = .ok (.getfield 71, 3) := by decide +kernel
theorem dX10_drinker_136 : decode cX10_drinker 136 = .ok (.invokevirtual 176, 3) := by decide +kernel
theorem dX10_drinker_139 : decode cX10_drinker 139 = .ok (.iload_n 1, 1) := by decide +kernel
theorem dX10_drinker_140 : decode cX10_drinker 140 = .ok (.invokestatic 166, 3) := by decide +kernel
theorem dX10_drinker_143 : decode cX10_drinker 143 = .ok (.ireturn, 1) := by decide +kernel
theorem dX10_drinker_144 : decode cX10_drinker 144 = .ok (.ldc 78, 2) := by decide +kernel
theorem dX10_drinker_146 : decode cX10_drinker 146 = .ok (.ireturn, 1) := by decide +kernel
theorem dX10_drinker_15 : decode cX10_drinker 15 = .ok (.tableswitch 129 0 6 #[41, 53, 65, 77, 89, 101, 113], 41) := by decide +kernel
theorem dX10_drinker_11 : decode cX10_drinker 11 = .ok (.ldc 149, 2) := by decide +kernel
theorem dX10_drinker_13 : decode cX10_drinker 13 = .ok (.ireturn, 1) := by decide +kernel
theorem dX10_drinker_8 : decode cX10_drinker 8 = .ok (.ifCond .ne 6, 3) := by decide +kernel
theorem bX10_drinker (x : bo_X) (hx : bo_OK x cX10_drinker RX10 3 3 67) (σ : bo_M) (p1 : Int32) (p2 : Int32) : bo_D x 0 [(0, .ref (bo_a x 0)), (1, .int p1), (2, .int p2)] [] σ (mX10_drinker σ p1 p2) (bo_Ri x cX10_drinker σ false) := by
  unfold mX10_drinker
  refine bo_aload_n hx dX10_drinker_0 rfl 0 rfl ?_
  refine gf_X10_71 hx dX10_drinker_1 ?_
  refine bo_iload_n hx dX10_drinker_4 rfl 1 rfl ?_
  refine bo_goR (z := true) hx (fun rr hh => bo_runV (As := [.int p1]) (S := []) hx dX10_drinker_5 lk_X10_146 mi_X4_hasDrinker (bo_inn_ok (σ 0 9)).o rfl rfl (kX4_hasDrinker (bo_l x) (bo_g x) hx.inj σ (bo_inn (σ 0 9)) p1 (bo_inn_ok (σ 0 9)) rr hh) ⟨by decide, by decide⟩ rfl rfl (Nat.le_of_ble_eq_true rfl)) (fun v1 hv1 => ?_)
  refine bo_if_ne hx 14 dX10_drinker_8 (by decide) ?_ ?_
  · refine bo_iload_n hx dX10_drinker_14 rfl 2 rfl ?_
    refine bo_by (fun c2 => ?_) (fun c2 => ?_)
    · refine bo_tabIn (v := 0) (off := 41) hx 56 dX10_drinker_15 c2 (by decide) (by decide) (by decide) (by decide) ?_
      refine bo_aload_n hx dX10_drinker_56 rfl 0 rfl ?_
      refine gf_X10_71 hx dX10_drinker_57 ?_
      refine gf_X10_150 hx (bo_inn_ok (σ 0 9)) dX10_drinker_60 ?_
      refine bo_iload_n hx dX10_drinker_63 rfl 1 rfl ?_
      refine bo_goR (z := false) hx (fun rr hh => bo_runS (As := [.ref (bo_a x ((bo_inn (σ 0 9)) + 1)), .int p1]) (S := []) hx dX10_drinker_64 lk_X10_154 ms_X8_at (kX8_at (bo_l x) (bo_g x) hx.inj σ 7 ((bo_inn (σ 0 9)) + 1) p1 (bo_inn_ok (σ 0 9)).a1 rr hh) ⟨by decide, by decide⟩ rfl rfl (Nat.le_of_ble_eq_true rfl)) (fun v3 hv3 => ?_)
      exact bo_ret dX10_drinker_67 (fun h => by cases h)
    · refine bo_by (fun c4 => ?_) (fun c4 => ?_)
      · refine bo_tabIn (v := 1) (off := 53) hx 68 dX10_drinker_15 c4 (by decide) (by decide) (by decide) (by decide) ?_
        refine bo_aload_n hx dX10_drinker_68 rfl 0 rfl ?_
        refine gf_X10_71 hx dX10_drinker_69 ?_
        refine gf_X10_160 hx (bo_inn_ok (σ 0 9)) dX10_drinker_72 ?_
        refine bo_iload_n hx dX10_drinker_75 rfl 1 rfl ?_
        refine bo_goR (z := false) hx (fun rr hh => bo_runS (As := [.ref (bo_a x ((bo_inn (σ 0 9)) + 2)), .int p1]) (S := []) hx dX10_drinker_76 lk_X10_154 ms_X8_at (kX8_at (bo_l x) (bo_g x) hx.inj σ 7 ((bo_inn (σ 0 9)) + 2) p1 (bo_inn_ok (σ 0 9)).a2 rr hh) ⟨by decide, by decide⟩ rfl rfl (Nat.le_of_ble_eq_true rfl)) (fun v5 hv5 => ?_)
        exact bo_ret dX10_drinker_79 (fun h => by cases h)
      · refine bo_by (fun c6 => ?_) (fun c6 => ?_)
        · refine bo_tabIn (v := 2) (off := 65) hx 80 dX10_drinker_15 c6 (by decide) (by decide) (by decide) (by decide) ?_
          refine bo_aload_n hx dX10_drinker_80 rfl 0 rfl ?_
          refine gf_X10_71 hx dX10_drinker_81 ?_
          refine gf_X10_163 hx (bo_inn_ok (σ 0 9)) dX10_drinker_84 ?_
          refine bo_iload_n hx dX10_drinker_87 rfl 1 rfl ?_
          refine bo_goR (z := false) hx (fun rr hh => bo_runS (As := [.ref (bo_a x ((bo_inn (σ 0 9)) + 3)), .int p1]) (S := []) hx dX10_drinker_88 lk_X10_154 ms_X8_at (kX8_at (bo_l x) (bo_g x) hx.inj σ 7 ((bo_inn (σ 0 9)) + 3) p1 (bo_inn_ok (σ 0 9)).a3 rr hh) ⟨by decide, by decide⟩ rfl rfl (Nat.le_of_ble_eq_true rfl)) (fun v7 hv7 => ?_)
          exact bo_ret dX10_drinker_91 (fun h => by cases h)
        · refine bo_by (fun c8 => ?_) (fun c8 => ?_)
          · refine bo_tabIn (v := 3) (off := 77) hx 92 dX10_drinker_15 c8 (by decide) (by decide) (by decide) (by decide) ?_
            refine bo_aload_n hx dX10_drinker_92 rfl 0 rfl ?_
            refine gf_X10_19 hx dX10_drinker_93 ?_
            refine gf_X10_123 hx bo_ev50 dX10_drinker_96 ?_
            refine bo_iload_n hx dX10_drinker_99 rfl 1 rfl ?_
            refine bo_goR (z := false) hx (fun rr hh => bo_runS (As := [.int (σ 50 5), .int p1]) (S := []) hx dX10_drinker_100 lk_X10_166 ms_X10_bit (kX10_bit (bo_l x) (bo_g x) hx.inj σ (σ 50 5) p1 rr hh) ⟨by decide, by decide⟩ rfl rfl (Nat.le_of_ble_eq_true rfl)) (fun v9 hv9 => ?_)
            exact bo_ret dX10_drinker_103 (fun h => by cases h)
          · refine bo_by (fun c10 => ?_) (fun c10 => ?_)
            · refine bo_tabIn (v := 4) (off := 89) hx 104 dX10_drinker_15 c10 (by decide) (by decide) (by decide) (by decide) ?_
              refine bo_aload_n hx dX10_drinker_104 rfl 0 rfl ?_
              refine gf_X10_19 hx dX10_drinker_105 ?_
              refine gf_X10_170 hx bo_ev50 dX10_drinker_108 ?_
              refine bo_iload_n hx dX10_drinker_111 rfl 1 rfl ?_
              refine bo_goR (z := false) hx (fun rr hh => bo_runS (As := [.ref (bo_a x 51), .int p1]) (S := []) hx dX10_drinker_112 lk_X10_154 ms_X8_at (kX8_at (bo_l x) (bo_g x) hx.inj σ 7 51 p1 bo_ev50.a1 rr hh) ⟨by decide, by decide⟩ rfl rfl (Nat.le_of_ble_eq_true rfl)) (fun v11 hv11 => ?_)
              exact bo_ret dX10_drinker_115 (fun h => by cases h)
            · refine bo_by (fun c12 => ?_) (fun c12 => ?_)
              · refine bo_tabIn (v := 5) (off := 101) hx 116 dX10_drinker_15 c12 (by decide) (by decide) (by decide) (by decide) ?_
                refine bo_aload_n hx dX10_drinker_116 rfl 0 rfl ?_
                refine gf_X10_19 hx dX10_drinker_117 ?_
                refine gf_X10_173 hx bo_ev50 dX10_drinker_120 ?_
                refine bo_iload_n hx dX10_drinker_123 rfl 1 rfl ?_
                refine bo_goR (z := false) hx (fun rr hh => bo_runS (As := [.ref (bo_a x 52), .int p1]) (S := []) hx dX10_drinker_124 lk_X10_154 ms_X8_at (kX8_at (bo_l x) (bo_g x) hx.inj σ 7 52 p1 bo_ev50.a2 rr hh) ⟨by decide, by decide⟩ rfl rfl (Nat.le_of_ble_eq_true rfl)) (fun v13 hv13 => ?_)
                exact bo_ret dX10_drinker_127 (fun h => by cases h)
              · refine bo_by (fun c14 => ?_) (fun c14 => ?_)
                · refine bo_tabIn (v := 6) (off := 113) hx 128 dX10_drinker_15 c14 (by decide) (by decide) (by decide) (by decide) ?_
                  refine bo_aload_n hx dX10_drinker_128 rfl 0 rfl ?_
                  refine gf_X10_19 hx dX10_drinker_129 ?_
                  refine bo_aload_n hx dX10_drinker_132 rfl 0 rfl ?_
                  refine gf_X10_71 hx dX10_drinker_133 ?_
                  refine bo_goR (z := false) hx (fun rr hh => bo_runV (As := [.ref (bo_a x (bo_inn (σ 0 9)))]) (S := []) hx dX10_drinker_136 lk_X10_176 mi_X2_thirsty bo_ev50.o rfl rfl (kX2_thirsty (bo_l x) (bo_g x) hx.inj σ 50 (bo_inn (σ 0 9)) bo_ev50 (bo_inn_ok (σ 0 9)) rr hh) ⟨by decide, by decide⟩ rfl rfl (Nat.le_of_ble_eq_true rfl)) (fun v15 hv15 => ?_)
                  refine bo_iload_n hx dX10_drinker_139 rfl 1 rfl ?_
                  refine bo_goR (z := false) hx (fun rr hh => bo_runS (As := [.int v15, .int p1]) (S := []) hx dX10_drinker_140 lk_X10_166 ms_X10_bit (kX10_bit (bo_l x) (bo_g x) hx.inj σ v15 p1 rr hh) ⟨by decide, by decide⟩ rfl rfl (Nat.le_of_ble_eq_true rfl)) (fun v16 hv16 => ?_)
                  exact bo_ret dX10_drinker_143 (fun h => by cases h)
                · refine bo_tabOut hx 144 dX10_drinker_15 (by have e2 : (p2).toInt ≠ 0 := bo_ne_n c2 (by decide); have e4 : (p2).toInt ≠ 1 := bo_ne_n c4 (by decide); have e6 : (p2).toInt ≠ 2 := bo_ne_n c6 (by decide); have e8 : (p2).toInt ≠ 3 := bo_ne_n c8 (by decide); have e10 : (p2).toInt ≠ 4 := bo_ne_n c10 (by decide); have e12 : (p2).toInt ≠ 5 := bo_ne_n c12 (by decide); have e14 : (p2).toInt ≠ 6 := bo_ne_n c14 (by decide); omega) (by decide) ?_
                  refine bo_ldc (v := (-1000000002)) hx dX10_drinker_144 wc_X10_78 ?_
                  exact bo_ret dX10_drinker_146 (fun h => by cases h)
  · refine bo_ldc (v := (-1000000001)) hx dX10_drinker_11 wc_X10_149 ?_
    exact bo_ret dX10_drinker_13 (fun h => by cases h)
theorem kX10_drinker (l : Launch) (g : bo_G) (hi : bo_inj g) (σ : bo_M) (p1 : Int32) (p2 : Int32) : bo_CR l g yX10_drinker cX10_drinker 3 (some .int) 3 67 [.ref (g.2.2 0), .int p1, .int p2] σ false (mX10_drinker σ p1 p2) :=
  bo_metR rfl (Or.inl ⟨rfl, rfl⟩) (by decide) rfl hi (Nat.le_of_ble_eq_true rfl) (fun x e1 e2 hx => by subst e1; subst e2; exact bX10_drinker x hx σ p1 p2)
-- BellRope$Inn.hasGoer
theorem dX4_hasGoer_0 : decode cX4_hasGoer 0 = .ok (.iload_n 1, 1) := by decide +kernel
theorem dX4_hasGoer_16 : decode cX4_hasGoer 16 = .ok (.iconst 0, 1) := by decide +kernel
theorem dX4_hasGoer_17 : decode cX4_hasGoer 17 = .ok (.ireturn, 1) := by decide +kernel
theorem dX4_hasGoer_4 : decode cX4_hasGoer 4 = .ok (.iload_n 1, 1) := by decide +kernel
theorem dX4_hasGoer_5 : decode cX4_hasGoer 5 = .ok (.aload_n 0, 1) := by decide +kernel
theorem dX4_hasGoer_6 : decode cX4_hasGoer 6 = .ok (.getfield 53, 3) := by decide +kernel
theorem dX4_hasGoer_12 : decode cX4_hasGoer 12 = .ok (.iconst 1, 1) := by decide +kernel
theorem dX4_hasGoer_13 : decode cX4_hasGoer 13 = .ok (.goto 4, 3) := by decide +kernel
theorem dX4_hasGoer_9 : decode cX4_hasGoer 9 = .ok (.if_icmp .ge 7, 3) := by decide +kernel
theorem dX4_hasGoer_1 : decode cX4_hasGoer 1 = .ok (.ifCond .lt 15, 3) := by decide +kernel
theorem bX4_hasGoer (x : bo_X) (hx : bo_OK x cX4_hasGoer RX4 2 0 0) (σ : bo_M) (o : Nat) (p1 : Int32) (ho : bo_isInn o) : bo_D x 0 [(0, .ref (bo_a x o)), (1, .int p1)] [] σ (mX4_hasGoer σ o p1) (bo_Ri x cX4_hasGoer σ true) := by
  unfold mX4_hasGoer
  refine bo_iload_n hx dX4_hasGoer_0 rfl 1 rfl ?_
  refine bo_if_lt hx 16 dX4_hasGoer_1 (by decide) ?_ ?_
  · refine bo_iconst (v := 0) hx dX4_hasGoer_16 (by decide) ?_
    exact bo_ret dX4_hasGoer_17 (fun _ => bo_b_0)
  · refine bo_iload_n hx dX4_hasGoer_4 rfl 1 rfl ?_
    refine bo_aload_n hx dX4_hasGoer_5 rfl 0 rfl ?_
    refine gf_X4_53 hx ho dX4_hasGoer_6 ?_
    refine bo_icmp_ge hx 16 dX4_hasGoer_9 (by decide) ?_ ?_
    · refine bo_iconst (v := 0) hx dX4_hasGoer_16 (by decide) ?_
      exact bo_ret dX4_hasGoer_17 (fun _ => bo_b_0)
    · refine bo_iconst (v := 1) hx dX4_hasGoer_12 (by decide) ?_
      refine bo_goto hx 17 dX4_hasGoer_13 (by decide) ?_
      exact bo_ret dX4_hasGoer_17 (fun _ => bo_b_1)
theorem kX4_hasGoer (l : Launch) (g : bo_G) (hi : bo_inj g) (σ : bo_M) (o : Nat) (p1 : Int32) (ho : bo_isInn o) : bo_CR l g yX4_hasGoer cX4_hasGoer 2 (some .boolean) 0 0 [.ref (g.2.2 o), .int p1] σ true (mX4_hasGoer σ o p1) :=
  bo_metR rfl (Or.inr ⟨rfl, rfl⟩) (by decide) rfl hi (Nat.le_of_ble_eq_true rfl) (fun x e1 e2 hx => by subst e1; subst e2; exact bX4_hasGoer x hx σ o p1 ho)
-- BellRope.goer
theorem dX10_goer_0 : decode cX10_goer 0 = .ok (.aload_n 0, 1) := by decide +kernel
theorem dX10_goer_1 : decode cX10_goer 1 = .ok (.getfield 71, 3) := by decide +kernel
theorem dX10_goer_4 : decode cX10_goer 4 = .ok (.iload_n 1, 1) := by decide +kernel
theorem dX10_goer_5 : decode cX10_goer 5 = .ok (.invokevirtual 179, 3) := by decide +kernel
theorem dX10_goer_14 : decode cX10_goer 14 = .ok (.iload_n 2, 1) := by decide +kernel
theorem dX10_goer_40 : decode cX10_goer 40 = .ok (.aload_n 0, 1) := by decide +kernel
theorem dX10_goer_41 : decode cX10_goer 41 = .ok (.getfield 71, 3) := by decide +kernel
theorem dX10_goer_44 : decode cX10_goer 44 = .ok (.getfield 182, 3) := by decide +kernel
theorem dX10_goer_47 : decode cX10_goer 47 = .ok (.iload_n 1, 1) := by decide +kernel
theorem dX10_goer_48 : decode cX10_goer 48 = .ok (.invokestatic 154, 3) := by decide +kernel
theorem dX10_goer_51 : decode cX10_goer 51 = .ok (.ireturn, 1) := by decide +kernel
theorem dX10_goer_52 : decode cX10_goer 52 = .ok (.aload_n 0, 1) := by decide +kernel
theorem dX10_goer_53 : decode cX10_goer 53 = .ok (.getfield 71, 3) := by decide +kernel
theorem dX10_goer_56 : decode cX10_goer 56 = .ok (.getfield 185, 3) := by decide +kernel
theorem dX10_goer_59 : decode cX10_goer 59 = .ok (.iload_n 1, 1) := by decide +kernel
theorem dX10_goer_60 : decode cX10_goer 60 = .ok (.invokestatic 154, 3) := by decide +kernel
theorem dX10_goer_63 : decode cX10_goer 63 = .ok (.ireturn, 1) := by decide +kernel
theorem dX10_goer_64 : decode cX10_goer 64 = .ok (.ldc 78, 2) := by decide +kernel
theorem dX10_goer_66 : decode cX10_goer 66 = .ok (.ireturn, 1) := by decide +kernel
theorem dX10_goer_15 : decode cX10_goer 15 = .ok (.lookupswitch 49 #[(0, 25), (1, 37)], 25) := by decide +kernel
theorem dX10_goer_11 : decode cX10_goer 11 = .ok (.ldc 149, 2) := by decide +kernel
theorem dX10_goer_13 : decode cX10_goer 13 = .ok (.ireturn, 1) := by decide +kernel
theorem dX10_goer_8 : decode cX10_goer 8 = .ok (.ifCond .ne 6, 3) := by decide +kernel
theorem bX10_goer (x : bo_X) (hx : bo_OK x cX10_goer RX10 3 1 21) (σ : bo_M) (p1 : Int32) (p2 : Int32) : bo_D x 0 [(0, .ref (bo_a x 0)), (1, .int p1), (2, .int p2)] [] σ (mX10_goer σ p1 p2) (bo_Ri x cX10_goer σ false) := by
  unfold mX10_goer
  refine bo_aload_n hx dX10_goer_0 rfl 0 rfl ?_
  refine gf_X10_71 hx dX10_goer_1 ?_
  refine bo_iload_n hx dX10_goer_4 rfl 1 rfl ?_
  refine bo_goR (z := true) hx (fun rr hh => bo_runV (As := [.int p1]) (S := []) hx dX10_goer_5 lk_X10_179 mi_X4_hasGoer (bo_inn_ok (σ 0 9)).o rfl rfl (kX4_hasGoer (bo_l x) (bo_g x) hx.inj σ (bo_inn (σ 0 9)) p1 (bo_inn_ok (σ 0 9)) rr hh) ⟨by decide, by decide⟩ rfl rfl (Nat.le_of_ble_eq_true rfl)) (fun v1 hv1 => ?_)
  refine bo_if_ne hx 14 dX10_goer_8 (by decide) ?_ ?_
  · refine bo_iload_n hx dX10_goer_14 rfl 2 rfl ?_
    refine bo_by (fun c2 => ?_) (fun c2 => ?_)
    · refine bo_look (off := 25) hx 40 dX10_goer_15 (by decide) (by rw [c2]; decide) (by decide) ?_
      refine bo_aload_n hx dX10_goer_40 rfl 0 rfl ?_
      refine gf_X10_71 hx dX10_goer_41 ?_
      refine gf_X10_182 hx (bo_inn_ok (σ 0 9)) dX10_goer_44 ?_
      refine bo_iload_n hx dX10_goer_47 rfl 1 rfl ?_
      refine bo_goR (z := false) hx (fun rr hh => bo_runS (As := [.ref (bo_a x ((bo_inn (σ 0 9)) + 4)), .int p1]) (S := []) hx dX10_goer_48 lk_X10_154 ms_X8_at (kX8_at (bo_l x) (bo_g x) hx.inj σ 6 ((bo_inn (σ 0 9)) + 4) p1 (bo_inn_ok (σ 0 9)).a4 rr hh) ⟨by decide, by decide⟩ rfl rfl (Nat.le_of_ble_eq_true rfl)) (fun v3 hv3 => ?_)
      exact bo_ret dX10_goer_51 (fun h => by cases h)
    · refine bo_by (fun c4 => ?_) (fun c4 => ?_)
      · refine bo_look (off := 37) hx 52 dX10_goer_15 (by decide) (by rw [c4]; decide) (by decide) ?_
        refine bo_aload_n hx dX10_goer_52 rfl 0 rfl ?_
        refine gf_X10_71 hx dX10_goer_53 ?_
        refine gf_X10_185 hx (bo_inn_ok (σ 0 9)) dX10_goer_56 ?_
        refine bo_iload_n hx dX10_goer_59 rfl 1 rfl ?_
        refine bo_goR (z := false) hx (fun rr hh => bo_runS (As := [.ref (bo_a x ((bo_inn (σ 0 9)) + 5)), .int p1]) (S := []) hx dX10_goer_60 lk_X10_154 ms_X8_at (kX8_at (bo_l x) (bo_g x) hx.inj σ 6 ((bo_inn (σ 0 9)) + 5) p1 (bo_inn_ok (σ 0 9)).a5 rr hh) ⟨by decide, by decide⟩ rfl rfl (Nat.le_of_ble_eq_true rfl)) (fun v5 hv5 => ?_)
        exact bo_ret dX10_goer_63 (fun h => by cases h)
      · refine bo_look (off := 49) hx 64 dX10_goer_15 (by decide) (by have e2 : (p2).toInt ≠ 0 := bo_ne_n c2 (by decide); have e4 : (p2).toInt ≠ 1 := bo_ne_n c4 (by decide); simp [Op.lookupswitch.offset, List.find?, Ne.symm e2, Ne.symm e4]) (by decide) ?_
        refine bo_ldc (v := (-1000000002)) hx dX10_goer_64 wc_X10_78 ?_
        exact bo_ret dX10_goer_66 (fun h => by cases h)
  · refine bo_ldc (v := (-1000000001)) hx dX10_goer_11 wc_X10_149 ?_
    exact bo_ret dX10_goer_13 (fun h => by cases h)
theorem kX10_goer (l : Launch) (g : bo_G) (hi : bo_inj g) (σ : bo_M) (p1 : Int32) (p2 : Int32) : bo_CR l g yX10_goer cX10_goer 3 (some .int) 1 21 [.ref (g.2.2 0), .int p1, .int p2] σ false (mX10_goer σ p1 p2) :=
  bo_metR rfl (Or.inl ⟨rfl, rfl⟩) (by decide) rfl hi (Nat.le_of_ble_eq_true rfl) (fun x e1 e2 hx => by subst e1; subst e2; exact bX10_goer x hx σ p1 p2)
-- BellRope.signal
theorem dX10_signal_0 : decode cX10_signal 0 = .ok (.iload_n 1, 1) := by decide +kernel
theorem dX10_signal_15 : decode cX10_signal 15 = .ok (.ldc 149, 2) := by decide +kernel
theorem dX10_signal_17 : decode cX10_signal 17 = .ok (.goto 14, 3) := by decide +kernel
theorem dX10_signal_31 : decode cX10_signal 31 = .ok (.ireturn, 1) := by decide +kernel
theorem dX10_signal_4 : decode cX10_signal 4 = .ok (.iload_n 1, 1) := by decide +kernel
theorem dX10_signal_5 : decode cX10_signal 5 = .ok (.aload_n 0, 1) := by decide +kernel
theorem dX10_signal_6 : decode cX10_signal 6 = .ok (.getfield 71, 3) := by decide +kernel
theorem dX10_signal_9 : decode cX10_signal 9 = .ok (.getfield 117, 3) := by decide +kernel
theorem dX10_signal_20 : decode cX10_signal 20 = .ok (.aload_n 0, 1) := by decide +kernel
theorem dX10_signal_21 : decode cX10_signal 21 = .ok (.getfield 71, 3) := by decide +kernel
theorem dX10_signal_24 : decode cX10_signal 24 = .ok (.getfield 188, 3) := by decide +kernel
theorem dX10_signal_27 : decode cX10_signal 27 = .ok (.iload_n 1, 1) := by decide +kernel
theorem dX10_signal_28 : decode cX10_signal 28 = .ok (.invokestatic 154, 3) := by decide +kernel
theorem dX10_signal_12 : decode cX10_signal 12 = .ok (.if_icmp .lt 8, 3) := by decide +kernel
theorem dX10_signal_1 : decode cX10_signal 1 = .ok (.ifCond .lt 14, 3) := by decide +kernel
theorem bX10_signal (x : bo_X) (hx : bo_OK x cX10_signal RX10 2 1 21) (σ : bo_M) (p1 : Int32) : bo_D x 0 [(0, .ref (bo_a x 0)), (1, .int p1)] [] σ (mX10_signal σ p1) (bo_Ri x cX10_signal σ false) := by
  unfold mX10_signal
  refine bo_iload_n hx dX10_signal_0 rfl 1 rfl ?_
  refine bo_if_lt hx 15 dX10_signal_1 (by decide) ?_ ?_
  · refine bo_ldc (v := (-1000000001)) hx dX10_signal_15 wc_X10_149 ?_
    refine bo_goto hx 31 dX10_signal_17 (by decide) ?_
    exact bo_ret dX10_signal_31 (fun h => by cases h)
  · refine bo_iload_n hx dX10_signal_4 rfl 1 rfl ?_
    refine bo_aload_n hx dX10_signal_5 rfl 0 rfl ?_
    refine gf_X10_71 hx dX10_signal_6 ?_
    refine gf_X10_117 hx (bo_inn_ok (σ 0 9)) dX10_signal_9 ?_
    refine bo_icmp_lt hx 20 dX10_signal_12 (by decide) ?_ ?_
    · refine bo_aload_n hx dX10_signal_20 rfl 0 rfl ?_
      refine gf_X10_71 hx dX10_signal_21 ?_
      refine gf_X10_188 hx (bo_inn_ok (σ 0 9)) dX10_signal_24 ?_
      refine bo_iload_n hx dX10_signal_27 rfl 1 rfl ?_
      refine bo_goR (z := false) hx (fun rr hh => bo_runS (As := [.ref (bo_a x ((bo_inn (σ 0 9)) + 6)), .int p1]) (S := []) hx dX10_signal_28 lk_X10_154 ms_X8_at (kX8_at (bo_l x) (bo_g x) hx.inj σ 5 ((bo_inn (σ 0 9)) + 6) p1 (bo_inn_ok (σ 0 9)).a6 rr hh) ⟨by decide, by decide⟩ rfl rfl (Nat.le_of_ble_eq_true rfl)) (fun v1 hv1 => ?_)
      exact bo_ret dX10_signal_31 (fun h => by cases h)
    · refine bo_ldc (v := (-1000000001)) hx dX10_signal_15 wc_X10_149 ?_
      refine bo_goto hx 31 dX10_signal_17 (by decide) ?_
      exact bo_ret dX10_signal_31 (fun h => by cases h)
theorem kX10_signal (l : Launch) (g : bo_G) (hi : bo_inj g) (σ : bo_M) (p1 : Int32) : bo_CR l g yX10_signal cX10_signal 2 (some .int) 1 21 [.ref (g.2.2 0), .int p1] σ false (mX10_signal σ p1) :=
  bo_metR rfl (Or.inl ⟨rfl, rfl⟩) (by decide) rfl hi (Nat.le_of_ble_eq_true rfl) (fun x e1 e2 hx => by subst e1; subst e2; exact bX10_signal x hx σ p1)
-- BellRope$Evening.heardAgo
theorem dX2_heardAgo_0 : decode cX2_heardAgo 0 = .ok (.aload_n 0, 1) := by decide +kernel
theorem dX2_heardAgo_1 : decode cX2_heardAgo 1 = .ok (.getfield 18, 3) := by decide +kernel
theorem dX2_heardAgo_4 : decode cX2_heardAgo 4 = .ok (.aload_n 0, 1) := by decide +kernel
theorem dX2_heardAgo_5 : decode cX2_heardAgo 5 = .ok (.getfield 24, 3) := by decide +kernel
theorem dX2_heardAgo_8 : decode cX2_heardAgo 8 = .ok (.iconst 1, 1) := by decide +kernel
theorem dX2_heardAgo_9 : decode cX2_heardAgo 9 = .ok (.isub, 1) := by decide +kernel
theorem dX2_heardAgo_10 : decode cX2_heardAgo 10 = .ok (.iload_n 1, 1) := by decide +kernel
theorem dX2_heardAgo_11 : decode cX2_heardAgo 11 = .ok (.isub, 1) := by decide +kernel
theorem dX2_heardAgo_12 : decode cX2_heardAgo 12 = .ok (.bipush 40, 2) := by decide +kernel
theorem dX2_heardAgo_14 : decode cX2_heardAgo 14 = .ok (.irem, 1) := by decide +kernel
theorem dX2_heardAgo_15 : decode cX2_heardAgo 15 = .ok (.invokestatic 59, 3) := by decide +kernel
theorem dX2_heardAgo_18 : decode cX2_heardAgo 18 = .ok (.ireturn, 1) := by decide +kernel
theorem bX2_heardAgo (x : bo_X) (hx : bo_OK x cX2_heardAgo RX2 2 1 21) (σ : bo_M) (o : Nat) (p1 : Int32) (ho : bo_isEv o) : bo_D x 0 [(0, .ref (bo_a x o)), (1, .int p1)] [] σ (mX2_heardAgo σ o p1) (bo_Ri x cX2_heardAgo σ false) := by
  unfold mX2_heardAgo
  refine bo_aload_n hx dX2_heardAgo_0 rfl 0 rfl ?_
  refine gf_X2_18 hx ho dX2_heardAgo_1 ?_
  refine bo_aload_n hx dX2_heardAgo_4 rfl 0 rfl ?_
  refine gf_X2_24 hx ho dX2_heardAgo_5 ?_
  refine bo_iconst (v := 1) hx dX2_heardAgo_8 (by decide) ?_
  refine bo_isub hx dX2_heardAgo_9 ?_
  refine bo_iload_n hx dX2_heardAgo_10 rfl 1 rfl ?_
  refine bo_isub hx dX2_heardAgo_11 ?_
  refine bo_bipush (v := 40) hx dX2_heardAgo_12 (by decide) ?_
  refine bo_iremc hx dX2_heardAgo_14 (by decide) ?_
  refine bo_goR (z := false) hx (fun rr hh => bo_runS (As := [.ref (bo_a x (o + 3)), .int (bo_irm (((σ o 4) - 1) - p1) 40)]) (S := []) hx dX2_heardAgo_15 lk_X2_59 ms_X8_at (kX8_at (bo_l x) (bo_g x) hx.inj σ 40 (o + 3) (bo_irm (((σ o 4) - 1) - p1) 40) ho.a3 rr hh) ⟨by decide, by decide⟩ rfl rfl (Nat.le_of_ble_eq_true rfl)) (fun v1 hv1 => ?_)
  exact bo_ret dX2_heardAgo_18 (fun h => by cases h)
theorem kX2_heardAgo (l : Launch) (g : bo_G) (hi : bo_inj g) (σ : bo_M) (o : Nat) (p1 : Int32) (ho : bo_isEv o) : bo_CR l g yX2_heardAgo cX2_heardAgo 2 (some .int) 1 21 [.ref (g.2.2 o), .int p1] σ false (mX2_heardAgo σ o p1) :=
  bo_metR rfl (Or.inl ⟨rfl, rfl⟩) (by decide) rfl hi (Nat.le_of_ble_eq_true rfl) (fun x e1 e2 hx => by subst e1; subst e2; exact bX2_heardAgo x hx σ o p1 ho)
-- BellRope$Evening.rungAgo
theorem dX2_rungAgo_0 : decode cX2_rungAgo 0 = .ok (.aload_n 0, 1) := by decide +kernel
theorem dX2_rungAgo_1 : decode cX2_rungAgo 1 = .ok (.getfield 21, 3) := by decide +kernel
theorem dX2_rungAgo_4 : decode cX2_rungAgo 4 = .ok (.aload_n 0, 1) := by decide +kernel
theorem dX2_rungAgo_5 : decode cX2_rungAgo 5 = .ok (.getfield 24, 3) := by decide +kernel
theorem dX2_rungAgo_8 : decode cX2_rungAgo 8 = .ok (.iconst 1, 1) := by decide +kernel
theorem dX2_rungAgo_9 : decode cX2_rungAgo 9 = .ok (.isub, 1) := by decide +kernel
theorem dX2_rungAgo_10 : decode cX2_rungAgo 10 = .ok (.iload_n 1, 1) := by decide +kernel
theorem dX2_rungAgo_11 : decode cX2_rungAgo 11 = .ok (.isub, 1) := by decide +kernel
theorem dX2_rungAgo_12 : decode cX2_rungAgo 12 = .ok (.bipush 40, 2) := by decide +kernel
theorem dX2_rungAgo_14 : decode cX2_rungAgo 14 = .ok (.irem, 1) := by decide +kernel
theorem dX2_rungAgo_15 : decode cX2_rungAgo 15 = .ok (.invokestatic 59, 3) := by decide +kernel
theorem dX2_rungAgo_18 : decode cX2_rungAgo 18 = .ok (.ireturn, 1) := by decide +kernel
theorem bX2_rungAgo (x : bo_X) (hx : bo_OK x cX2_rungAgo RX2 2 1 21) (σ : bo_M) (o : Nat) (p1 : Int32) (ho : bo_isEv o) : bo_D x 0 [(0, .ref (bo_a x o)), (1, .int p1)] [] σ (mX2_rungAgo σ o p1) (bo_Ri x cX2_rungAgo σ false) := by
  unfold mX2_rungAgo
  refine bo_aload_n hx dX2_rungAgo_0 rfl 0 rfl ?_
  refine gf_X2_21 hx ho dX2_rungAgo_1 ?_
  refine bo_aload_n hx dX2_rungAgo_4 rfl 0 rfl ?_
  refine gf_X2_24 hx ho dX2_rungAgo_5 ?_
  refine bo_iconst (v := 1) hx dX2_rungAgo_8 (by decide) ?_
  refine bo_isub hx dX2_rungAgo_9 ?_
  refine bo_iload_n hx dX2_rungAgo_10 rfl 1 rfl ?_
  refine bo_isub hx dX2_rungAgo_11 ?_
  refine bo_bipush (v := 40) hx dX2_rungAgo_12 (by decide) ?_
  refine bo_iremc hx dX2_rungAgo_14 (by decide) ?_
  refine bo_goR (z := false) hx (fun rr hh => bo_runS (As := [.ref (bo_a x (o + 4)), .int (bo_irm (((σ o 4) - 1) - p1) 40)]) (S := []) hx dX2_rungAgo_15 lk_X2_59 ms_X8_at (kX8_at (bo_l x) (bo_g x) hx.inj σ 40 (o + 4) (bo_irm (((σ o 4) - 1) - p1) 40) ho.a4 rr hh) ⟨by decide, by decide⟩ rfl rfl (Nat.le_of_ble_eq_true rfl)) (fun v1 hv1 => ?_)
  exact bo_ret dX2_rungAgo_18 (fun h => by cases h)
theorem kX2_rungAgo (l : Launch) (g : bo_G) (hi : bo_inj g) (σ : bo_M) (o : Nat) (p1 : Int32) (ho : bo_isEv o) : bo_CR l g yX2_rungAgo cX2_rungAgo 2 (some .int) 1 21 [.ref (g.2.2 o), .int p1] σ false (mX2_rungAgo σ o p1) :=
  bo_metR rfl (Or.inl ⟨rfl, rfl⟩) (by decide) rfl hi (Nat.le_of_ble_eq_true rfl) (fun x e1 e2 hx => by subst e1; subst e2; exact bX2_rungAgo x hx σ o p1 ho)
-- BellRope.logged
theorem dX10_logged_0 : decode cX10_logged 0 = .ok (.iload_n 2, 1) := by decide +kernel
theorem dX10_logged_9 : decode cX10_logged 9 = .ok (.ldc 78, 2) := by decide +kernel
theorem dX10_logged_11 : decode cX10_logged 11 = .ok (.ireturn, 1) := by decide +kernel
theorem dX10_logged_4 : decode cX10_logged 4 = .ok (.iload_n 2, 1) := by decide +kernel
theorem dX10_logged_5 : decode cX10_logged 5 = .ok (.iconst 1, 1) := by decide +kernel
theorem dX10_logged_12 : decode cX10_logged 12 = .ok (.iload_n 1, 1) := by decide +kernel
theorem dX10_logged_27 : decode cX10_logged 27 = .ok (.iconst (-1), 1) := by decide +kernel
theorem dX10_logged_28 : decode cX10_logged 28 = .ok (.ireturn, 1) := by decide +kernel
theorem dX10_logged_16 : decode cX10_logged 16 = .ok (.iload_n 1, 1) := by decide +kernel
theorem dX10_logged_17 : decode cX10_logged 17 = .ok (.aload_n 0, 1) := by decide +kernel
theorem dX10_logged_18 : decode cX10_logged 18 = .ok (.getfield 19, 3) := by decide +kernel
theorem dX10_logged_21 : decode cX10_logged 21 = .ok (.invokevirtual 139, 3) := by decide +kernel
theorem dX10_logged_29 : decode cX10_logged 29 = .ok (.iload_n 2, 1) := by decide +kernel
theorem dX10_logged_44 : decode cX10_logged 44 = .ok (.aload_n 0, 1) := by decide +kernel
theorem dX10_logged_45 : decode cX10_logged 45 = .ok (.getfield 19, 3) := by decide +kernel
theorem dX10_logged_48 : decode cX10_logged 48 = .ok (.iload_n 1, 1) := by decide +kernel
theorem dX10_logged_49 : decode cX10_logged 49 = .ok (.invokevirtual 195, 3) := by decide +kernel
theorem dX10_logged_52 : decode cX10_logged 52 = .ok (.ireturn, 1) := by decide +kernel
theorem dX10_logged_33 : decode cX10_logged 33 = .ok (.aload_n 0, 1) := by decide +kernel
theorem dX10_logged_34 : decode cX10_logged 34 = .ok (.getfield 19, 3) := by decide +kernel
theorem dX10_logged_37 : decode cX10_logged 37 = .ok (.iload_n 1, 1) := by decide +kernel
theorem dX10_logged_38 : decode cX10_logged 38 = .ok (.invokevirtual 191, 3) := by decide +kernel
theorem dX10_logged_41 : decode cX10_logged 41 = .ok (.goto 11, 3) := by decide +kernel
theorem dX10_logged_30 : decode cX10_logged 30 = .ok (.ifCond .ne 14, 3) := by decide +kernel
theorem dX10_logged_24 : decode cX10_logged 24 = .ok (.if_icmp .lt 5, 3) := by decide +kernel
theorem dX10_logged_13 : decode cX10_logged 13 = .ok (.ifCond .lt 14, 3) := by decide +kernel
theorem dX10_logged_6 : decode cX10_logged 6 = .ok (.if_icmp .le 6, 3) := by decide +kernel
theorem dX10_logged_1 : decode cX10_logged 1 = .ok (.ifCond .lt 8, 3) := by decide +kernel
theorem bX10_logged (x : bo_X) (hx : bo_OK x cX10_logged RX10 3 2 44) (σ : bo_M) (p1 : Int32) (p2 : Int32) : bo_D x 0 [(0, .ref (bo_a x 0)), (1, .int p1), (2, .int p2)] [] σ (mX10_logged σ p1 p2) (bo_Ri x cX10_logged σ false) := by
  unfold mX10_logged
  refine bo_iload_n hx dX10_logged_0 rfl 2 rfl ?_
  refine bo_if_lt hx 9 dX10_logged_1 (by decide) ?_ ?_
  · refine bo_ldc (v := (-1000000002)) hx dX10_logged_9 wc_X10_78 ?_
    exact bo_ret dX10_logged_11 (fun h => by cases h)
  · refine bo_iload_n hx dX10_logged_4 rfl 2 rfl ?_
    refine bo_iconst (v := 1) hx dX10_logged_5 (by decide) ?_
    refine bo_icmp_le hx 12 dX10_logged_6 (by decide) ?_ ?_
    · refine bo_iload_n hx dX10_logged_12 rfl 1 rfl ?_
      refine bo_if_lt hx 27 dX10_logged_13 (by decide) ?_ ?_
      · refine bo_iconst (v := (-1)) hx dX10_logged_27 (by decide) ?_
        exact bo_ret dX10_logged_28 (fun h => by cases h)
      · refine bo_iload_n hx dX10_logged_16 rfl 1 rfl ?_
        refine bo_aload_n hx dX10_logged_17 rfl 0 rfl ?_
        refine gf_X10_19 hx dX10_logged_18 ?_
        refine bo_goR (z := false) hx (fun rr hh => bo_runV (As := []) (S := [.int p1]) hx dX10_logged_21 lk_X10_139 mi_X2_logs bo_ev50.o rfl rfl (kX2_logs (bo_l x) (bo_g x) hx.inj σ 50 bo_ev50 rr hh) ⟨by decide, by decide⟩ rfl rfl (Nat.le_of_ble_eq_true rfl)) (fun v1 hv1 => ?_)
        refine bo_icmp_lt hx 29 dX10_logged_24 (by decide) ?_ ?_
        · refine bo_iload_n hx dX10_logged_29 rfl 2 rfl ?_
          refine bo_if_ne hx 44 dX10_logged_30 (by decide) ?_ ?_
          · refine bo_aload_n hx dX10_logged_44 rfl 0 rfl ?_
            refine gf_X10_19 hx dX10_logged_45 ?_
            refine bo_iload_n hx dX10_logged_48 rfl 1 rfl ?_
            refine bo_goR (z := false) hx (fun rr hh => bo_runV (As := [.int p1]) (S := []) hx dX10_logged_49 lk_X10_195 mi_X2_rungAgo bo_ev50.o rfl rfl (kX2_rungAgo (bo_l x) (bo_g x) hx.inj σ 50 p1 bo_ev50 rr hh) ⟨by decide, by decide⟩ rfl rfl (Nat.le_of_ble_eq_true rfl)) (fun v2 hv2 => ?_)
            exact bo_ret dX10_logged_52 (fun h => by cases h)
          · refine bo_aload_n hx dX10_logged_33 rfl 0 rfl ?_
            refine gf_X10_19 hx dX10_logged_34 ?_
            refine bo_iload_n hx dX10_logged_37 rfl 1 rfl ?_
            refine bo_goR (z := false) hx (fun rr hh => bo_runV (As := [.int p1]) (S := []) hx dX10_logged_38 lk_X10_191 mi_X2_heardAgo bo_ev50.o rfl rfl (kX2_heardAgo (bo_l x) (bo_g x) hx.inj σ 50 p1 bo_ev50 rr hh) ⟨by decide, by decide⟩ rfl rfl (Nat.le_of_ble_eq_true rfl)) (fun v3 hv3 => ?_)
            refine bo_goto hx 52 dX10_logged_41 (by decide) ?_
            exact bo_ret dX10_logged_52 (fun h => by cases h)
        · refine bo_iconst (v := (-1)) hx dX10_logged_27 (by decide) ?_
          exact bo_ret dX10_logged_28 (fun h => by cases h)
    · refine bo_ldc (v := (-1000000002)) hx dX10_logged_9 wc_X10_78 ?_
      exact bo_ret dX10_logged_11 (fun h => by cases h)
theorem kX10_logged (l : Launch) (g : bo_G) (hi : bo_inj g) (σ : bo_M) (p1 : Int32) (p2 : Int32) : bo_CR l g yX10_logged cX10_logged 3 (some .int) 2 44 [.ref (g.2.2 0), .int p1, .int p2] σ false (mX10_logged σ p1 p2) :=
  bo_metR rfl (Or.inl ⟨rfl, rfl⟩) (by decide) rfl hi (Nat.le_of_ble_eq_true rfl) (fun x e1 e2 hx => by subst e1; subst e2; exact bX10_logged x hx σ p1 p2)
-- BellRope.refused
theorem dX10_refused_0 : decode cX10_refused 0 = .ok (.iload_n 1, 1) := by decide +kernel
theorem dX10_refused_7 : decode cX10_refused 7 = .ok (.aload_n 0, 1) := by decide +kernel
theorem dX10_refused_8 : decode cX10_refused 8 = .ok (.getfield 71, 3) := by decide +kernel
theorem dX10_refused_11 : decode cX10_refused 11 = .ok (.getfield 242, 3) := by decide +kernel
theorem dX10_refused_21 : decode cX10_refused 21 = .ok (.ldc 208, 2) := by decide +kernel
theorem dX10_refused_23 : decode cX10_refused 23 = .ok (.ireturn, 1) := by decide +kernel
theorem dX10_refused_17 : decode cX10_refused 17 = .ok (.iconst 0, 1) := by decide +kernel
theorem dX10_refused_18 : decode cX10_refused 18 = .ok (.goto 5, 3) := by decide +kernel
theorem dX10_refused_14 : decode cX10_refused 14 = .ok (.ifCond .eq 7, 3) := by decide +kernel
theorem dX10_refused_4 : decode cX10_refused 4 = .ok (.ldc 78, 2) := by decide +kernel
theorem dX10_refused_6 : decode cX10_refused 6 = .ok (.ireturn, 1) := by decide +kernel
theorem dX10_refused_1 : decode cX10_refused 1 = .ok (.ifCond .eq 6, 3) := by decide +kernel
theorem bX10_refused (x : bo_X) (hx : bo_OK x cX10_refused RX10 2 0 0) (σ : bo_M) (p1 : Int32) : bo_D x 0 [(0, .ref (bo_a x 0)), (1, .int p1)] [] σ (mX10_refused σ p1) (bo_Ri x cX10_refused σ false) := by
  unfold mX10_refused
  refine bo_iload_n hx dX10_refused_0 rfl 1 rfl ?_
  refine bo_if_eq hx 7 dX10_refused_1 (by decide) ?_ ?_
  · refine bo_aload_n hx dX10_refused_7 rfl 0 rfl ?_
    refine gf_X10_71 hx dX10_refused_8 ?_
    refine gf_X10_242 hx (bo_inn_ok (σ 0 9)) dX10_refused_11 ?_
    refine bo_if_eq hx 21 dX10_refused_14 (by decide) ?_ ?_
    · refine bo_ldc (v := (-1000000003)) hx dX10_refused_21 wc_X10_208 ?_
      exact bo_ret dX10_refused_23 (fun h => by cases h)
    · refine bo_iconst (v := 0) hx dX10_refused_17 (by decide) ?_
      refine bo_goto hx 23 dX10_refused_18 (by decide) ?_
      exact bo_ret dX10_refused_23 (fun h => by cases h)
  · refine bo_ldc (v := (-1000000002)) hx dX10_refused_4 wc_X10_78 ?_
    exact bo_ret dX10_refused_6 (fun h => by cases h)
theorem kX10_refused (l : Launch) (g : bo_G) (hi : bo_inj g) (σ : bo_M) (p1 : Int32) : bo_CR l g yX10_refused cX10_refused 2 (some .int) 0 0 [.ref (g.2.2 0), .int p1] σ false (mX10_refused σ p1) :=
  bo_metR rfl (Or.inl ⟨rfl, rfl⟩) (by decide) rfl hi (Nat.le_of_ble_eq_true rfl) (fun x e1 e2 hx => by subst e1; subst e2; exact bX10_refused x hx σ p1)
-- BellRope.refusedQuarters
theorem dX10_refusedQuarters_0 : decode cX10_refusedQuarters 0 = .ok (.aload_n 0, 1) := by decide +kernel
theorem dX10_refusedQuarters_1 : decode cX10_refusedQuarters 1 = .ok (.iload_n 1, 1) := by decide +kernel
theorem dX10_refusedQuarters_2 : decode cX10_refusedQuarters 2 = .ok (.iconst 1, 1) := by decide +kernel
theorem dX10_refusedQuarters_12 : decode cX10_refusedQuarters 12 = .ok (.iconst 1, 1) := by decide +kernel
theorem dX10_refusedQuarters_13 : decode cX10_refusedQuarters 13 = .ok (.goto 4, 3) := by decide +kernel
theorem dX10_refusedQuarters_6 : decode cX10_refusedQuarters 6 = .ok (.iload_n 1, 1) := by decide +kernel
theorem dX10_refusedQuarters_7 : decode cX10_refusedQuarters 7 = .ok (.bipush 96, 2) := by decide +kernel
theorem dX10_refusedQuarters_16 : decode cX10_refusedQuarters 16 = .ok (.iconst 0, 1) := by decide +kernel
theorem dX10_refusedQuarters_9 : decode cX10_refusedQuarters 9 = .ok (.if_icmp .le 7, 3) := by decide +kernel
theorem dX10_refusedQuarters_3 : decode cX10_refusedQuarters 3 = .ok (.if_icmp .lt 9, 3) := by decide +kernel
theorem dX10_refusedQuarters_17 : decode cX10_refusedQuarters 17 = .ok (.invokevirtual 218, 3) := by decide +kernel
theorem dX10_refusedQuarters_20 : decode cX10_refusedQuarters 20 = .ok (.istore_n 2, 1) := by decide +kernel
theorem dX10_refusedQuarters_21 : decode cX10_refusedQuarters 21 = .ok (.iload_n 2, 1) := by decide +kernel
theorem dX10_refusedQuarters_27 : decode cX10_refusedQuarters 27 = .ok (.aload_n 0, 1) := by decide +kernel
theorem dX10_refusedQuarters_28 : decode cX10_refusedQuarters 28 = .ok (.getfield 19, 3) := by decide +kernel
theorem dX10_refusedQuarters_31 : decode cX10_refusedQuarters 31 = .ok (.getfield 120, 3) := by decide +kernel
theorem dX10_refusedQuarters_34 : decode cX10_refusedQuarters 34 = .ok (.ldc_w 335, 3) := by decide +kernel
theorem dX10_refusedQuarters_45 : decode cX10_refusedQuarters 45 = .ok (.iconst 0, 1) := by decide +kernel
theorem dX10_refusedQuarters_46 : decode cX10_refusedQuarters 46 = .ok (.ireturn, 1) := by decide +kernel
theorem dX10_refusedQuarters_40 : decode cX10_refusedQuarters 40 = .ok (.ldc 87, 2) := by decide +kernel
theorem dX10_refusedQuarters_42 : decode cX10_refusedQuarters 42 = .ok (.goto 4, 3) := by decide +kernel
theorem dX10_refusedQuarters_37 : decode cX10_refusedQuarters 37 = .ok (.if_icmp .le 8, 3) := by decide +kernel
theorem dX10_refusedQuarters_25 : decode cX10_refusedQuarters 25 = .ok (.iload_n 2, 1) := by decide +kernel
theorem dX10_refusedQuarters_26 : decode cX10_refusedQuarters 26 = .ok (.ireturn, 1) := by decide +kernel
theorem dX10_refusedQuarters_22 : decode cX10_refusedQuarters 22 = .ok (.ifCond .eq 5, 3) := by decide +kernel
theorem bX10_refusedQuarters (x : bo_X) (hx : bo_OK x cX10_refusedQuarters RX10 3 1 21) (σ : bo_M) (p1 : Int32) : bo_D x 0 [(0, .ref (bo_a x 0)), (1, .int p1)] [] σ (mX10_refusedQuarters σ p1) (bo_Ri x cX10_refusedQuarters σ false) := by
  unfold mX10_refusedQuarters
  refine bo_aload_n hx dX10_refusedQuarters_0 rfl 0 rfl ?_
  refine bo_iload_n hx dX10_refusedQuarters_1 rfl 1 rfl ?_
  refine bo_iconst (v := 1) hx dX10_refusedQuarters_2 (by decide) ?_
  refine bo_seq 17 (fun a => [(0, .ref (bo_a x 0))]) (fun a => [.int a, .ref (bo_a x 0)]) (fun a => σ) ?_ (fun a1 => ?_)
  · refine bo_icmp_lt hx 12 dX10_refusedQuarters_3 (by decide) ?_ ?_
    · refine bo_iconst (v := 1) hx dX10_refusedQuarters_12 (by decide) ?_
      refine bo_goto hx 17 dX10_refusedQuarters_13 (by decide) ?_
      refine bo_sub (L' := [(0, .ref (bo_a x 0))]) [0] rfl ?_
      exact bo_arr (fun h => h)
    · refine bo_iload_n hx dX10_refusedQuarters_6 rfl 1 rfl ?_
      refine bo_bipush (v := 96) hx dX10_refusedQuarters_7 (by decide) ?_
      refine bo_icmp_le hx 16 dX10_refusedQuarters_9 (by decide) ?_ ?_
      · refine bo_iconst (v := 0) hx dX10_refusedQuarters_16 (by decide) ?_
        refine bo_sub (L' := [(0, .ref (bo_a x 0))]) [0] rfl ?_
        exact bo_arr (fun h => h)
      · refine bo_iconst (v := 1) hx dX10_refusedQuarters_12 (by decide) ?_
        refine bo_goto hx 17 dX10_refusedQuarters_13 (by decide) ?_
        refine bo_sub (L' := [(0, .ref (bo_a x 0))]) [0] rfl ?_
        exact bo_arr (fun h => h)
  · refine bo_goR (z := false) hx (fun rr hh => bo_runV (As := [.int a1]) (S := []) hx dX10_refusedQuarters_17 lk_X10_218 mi_X10_refused bo_o_0 rfl rfl (kX10_refused (bo_l x) (bo_g x) hx.inj σ a1 rr hh) ⟨by decide, by decide⟩ rfl rfl (Nat.le_of_ble_eq_true rfl)) (fun v2 hv2 => ?_)
    refine bo_istore_n (L' := [(2, .int v2), (0, .ref (bo_a x 0))]) hx dX10_refusedQuarters_20 rfl (by decide) rfl ?_
    refine bo_iload_n hx dX10_refusedQuarters_21 rfl 0 rfl ?_
    refine bo_if_eq hx 27 dX10_refusedQuarters_22 (by decide) ?_ ?_
    · refine bo_aload_n hx dX10_refusedQuarters_27 rfl 1 rfl ?_
      refine gf_X10_19 hx dX10_refusedQuarters_28 ?_
      refine gf_X10_120 hx bo_ev50 dX10_refusedQuarters_31 ?_
      refine bo_ldcw (v := 90000) hx dX10_refusedQuarters_34 wc_X10_335 ?_
      refine bo_icmp_le hx 45 dX10_refusedQuarters_37 (by decide) ?_ ?_
      · refine bo_iconst (v := 0) hx dX10_refusedQuarters_45 (by decide) ?_
        exact bo_ret dX10_refusedQuarters_46 (fun h => by cases h)
      · refine bo_ldc (v := (-1000000004)) hx dX10_refusedQuarters_40 wc_X10_87 ?_
        refine bo_goto hx 46 dX10_refusedQuarters_42 (by decide) ?_
        exact bo_ret dX10_refusedQuarters_46 (fun h => by cases h)
    · refine bo_iload_n hx dX10_refusedQuarters_25 rfl 0 rfl ?_
      exact bo_ret dX10_refusedQuarters_26 (fun h => by cases h)
theorem kX10_refusedQuarters (l : Launch) (g : bo_G) (hi : bo_inj g) (σ : bo_M) (p1 : Int32) : bo_CR l g yX10_refusedQuarters cX10_refusedQuarters 3 (some .int) 1 21 [.ref (g.2.2 0), .int p1] σ false (mX10_refusedQuarters σ p1) :=
  bo_metR rfl (Or.inl ⟨rfl, rfl⟩) (by decide) rfl hi (Nat.le_of_ble_eq_true rfl) (fun x e1 e2 hx => by subst e1; subst e2; exact bX10_refusedQuarters x hx σ p1)
-- BellRope$Past.loseOldest
theorem dX6_loseOldest_0 : decode cX6_loseOldest 0 = .ok (.iconst 1, 1) := by decide +kernel
theorem dX6_loseOldest_1 : decode cX6_loseOldest 1 = .ok (.istore_n 1, 1) := by decide +kernel
theorem dX6_loseOldest_2 : decode cX6_loseOldest 2 = .ok (.iload_n 1, 1) := by decide +kernel
theorem dX6_loseOldest_3 : decode cX6_loseOldest 3 = .ok (.aload_n 0, 1) := by decide +kernel
theorem dX6_loseOldest_4 : decode cX6_loseOldest 4 = .ok (.getfield 11, 3) := by decide +kernel
theorem dX6_loseOldest_7 : decode cX6_loseOldest 7 = .ok (.arraylength, 1) := by decide +kernel
theorem dX6_loseOldest_11 : decode cX6_loseOldest 11 = .ok (.aload_n 0, 1) := by decide +kernel
theorem dX6_loseOldest_12 : decode cX6_loseOldest 12 = .ok (.getfield 11, 3) := by decide +kernel
theorem dX6_loseOldest_15 : decode cX6_loseOldest 15 = .ok (.iload_n 1, 1) := by decide +kernel
theorem dX6_loseOldest_16 : decode cX6_loseOldest 16 = .ok (.iconst 1, 1) := by decide +kernel
theorem dX6_loseOldest_17 : decode cX6_loseOldest 17 = .ok (.isub, 1) := by decide +kernel
theorem dX6_loseOldest_18 : decode cX6_loseOldest 18 = .ok (.aaload, 1) := by decide +kernel
theorem dX6_loseOldest_19 : decode cX6_loseOldest 19 = .ok (.astore_n 2, 1) := by decide +kernel
theorem dX6_loseOldest_20 : decode cX6_loseOldest 20 = .ok (.aload_n 0, 1) := by decide +kernel
theorem dX6_loseOldest_21 : decode cX6_loseOldest 21 = .ok (.getfield 11, 3) := by decide +kernel
theorem dX6_loseOldest_24 : decode cX6_loseOldest 24 = .ok (.iload_n 1, 1) := by decide +kernel
theorem dX6_loseOldest_25 : decode cX6_loseOldest 25 = .ok (.iconst 1, 1) := by decide +kernel
theorem dX6_loseOldest_26 : decode cX6_loseOldest 26 = .ok (.isub, 1) := by decide +kernel
theorem dX6_loseOldest_27 : decode cX6_loseOldest 27 = .ok (.aload_n 0, 1) := by decide +kernel
theorem dX6_loseOldest_28 : decode cX6_loseOldest 28 = .ok (.getfield 11, 3) := by decide +kernel
theorem dX6_loseOldest_31 : decode cX6_loseOldest 31 = .ok (.iload_n 1, 1) := by decide +kernel
theorem dX6_loseOldest_32 : decode cX6_loseOldest 32 = .ok (.aaload, 1) := by decide +kernel
theorem dX6_loseOldest_33 : decode cX6_loseOldest 33 = .ok (.aastore, 1) := by decide +kernel
theorem dX6_loseOldest_34 : decode cX6_loseOldest 34 = .ok (.aload_n 0, 1) := by decide +kernel
theorem dX6_loseOldest_35 : decode cX6_loseOldest 35 = .ok (.getfield 11, 3) := by decide +kernel
theorem dX6_loseOldest_38 : decode cX6_loseOldest 38 = .ok (.iload_n 1, 1) := by decide +kernel
theorem dX6_loseOldest_39 : decode cX6_loseOldest 39 = .ok (.aload_n 2, 1) := by decide +kernel
theorem dX6_loseOldest_40 : decode cX6_loseOldest 40 = .ok (.aastore, 1) := by decide +kernel
theorem dX6_loseOldest_41 : decode cX6_loseOldest 41 = .ok (.iinc 1 1, 3) := by decide +kernel
theorem dX6_loseOldest_44 : decode cX6_loseOldest 44 = .ok (.goto (-42), 3) := by decide +kernel
theorem dX6_loseOldest_8 : decode cX6_loseOldest 8 = .ok (.if_icmp .ge 39, 3) := by decide +kernel
theorem dX6_loseOldest_47 : decode cX6_loseOldest 47 = .ok (.aload_n 0, 1) := by decide +kernel
theorem dX6_loseOldest_48 : decode cX6_loseOldest 48 = .ok (.dup, 1) := by decide +kernel
theorem dX6_loseOldest_49 : decode cX6_loseOldest 49 = .ok (.getfield 18, 3) := by decide +kernel
theorem dX6_loseOldest_52 : decode cX6_loseOldest 52 = .ok (.iconst 1, 1) := by decide +kernel
theorem dX6_loseOldest_53 : decode cX6_loseOldest 53 = .ok (.isub, 1) := by decide +kernel
theorem dX6_loseOldest_54 : decode cX6_loseOldest 54 = .ok (.putfield 18, 3) := by decide +kernel
theorem dX6_loseOldest_57 : decode cX6_loseOldest 57 = .ok (.return_, 1) := by decide +kernel
theorem lX6_loseOldest_L2 (x : bo_X) (hx : bo_OK x cX6_loseOldest RX6 3 0 0)  : ∀ (n : Nat) (w1 : Int32) (σ : bo_M), bo_D x 2 [(0, .ref (bo_a x 3)), (1, .int w1)] [] σ (mX6_loseOldest_L2 n w1 σ) (fun a => bo_N x 47 [(0, .ref (bo_a x 3))] [] a) := by
  intro n
  induction n with
  | zero => intro w1 σ; exact bo_none
  | succ n ih =>
    intro w1 σ
    rw [mX6_loseOldest_L2]
    refine bo_iload_n hx dX6_loseOldest_2 rfl 1 rfl ?_
    refine bo_aload_n hx dX6_loseOldest_3 rfl 0 rfl ?_
    refine gf_X6_11 hx dX6_loseOldest_4 ?_
    refine bo_alenQ (v := 16) hx bo_c_4 rfl dX6_loseOldest_7 ?_
    refine bo_icmp_ge hx 47 dX6_loseOldest_8 (by decide) ?_ ?_
    · refine bo_sub (L' := [(0, .ref (bo_a x 3))]) [0] rfl ?_
      exact bo_arr (fun h => h)
    · refine bo_aload_n hx dX6_loseOldest_11 rfl 0 rfl ?_
      refine gf_X6_11 hx dX6_loseOldest_12 ?_
      refine bo_iload_n hx dX6_loseOldest_15 rfl 1 rfl ?_
      refine bo_iconst (v := 1) hx dX6_loseOldest_16 (by decide) ?_
      refine bo_isub hx dX6_loseOldest_17 ?_
      refine bo_aald hx bo_c_4 dX6_loseOldest_18 (fun v1 => ?_)
      refine bo_astore_n (L' := [(2, .ref (bo_a x (bo_ev v1))), (0, .ref (bo_a x 3)), (1, .int w1)]) hx dX6_loseOldest_19 rfl (by decide) rfl ?_
      refine bo_aload_n hx dX6_loseOldest_20 rfl 1 rfl ?_
      refine gf_X6_11 hx dX6_loseOldest_21 ?_
      refine bo_iload_n hx dX6_loseOldest_24 rfl 2 rfl ?_
      refine bo_iconst (v := 1) hx dX6_loseOldest_25 (by decide) ?_
      refine bo_isub hx dX6_loseOldest_26 ?_
      refine bo_aload_n hx dX6_loseOldest_27 rfl 1 rfl ?_
      refine gf_X6_11 hx dX6_loseOldest_28 ?_
      refine bo_iload_n hx dX6_loseOldest_31 rfl 2 rfl ?_
      refine bo_aald hx bo_c_4 dX6_loseOldest_32 (fun v2 => ?_)
      refine bo_aast hx bo_c_4 dX6_loseOldest_33 (fun σ3 => ?_)
      refine bo_aload_n hx dX6_loseOldest_34 rfl 1 rfl ?_
      refine gf_X6_11 hx dX6_loseOldest_35 ?_
      refine bo_iload_n hx dX6_loseOldest_38 rfl 2 rfl ?_
      refine bo_aload_n hx dX6_loseOldest_39 rfl 0 rfl ?_
      refine bo_aast hx bo_c_4 dX6_loseOldest_40 (fun σ4 => ?_)
      refine bo_iinc (L' := [(1, .int (w1 + 1)), (2, .ref (bo_a x (bo_ev v1))), (0, .ref (bo_a x 3))]) (w := (w1 + 1)) hx dX6_loseOldest_41 2 rfl rfl (by decide) rfl ?_
      refine bo_goto hx 2 dX6_loseOldest_44 (by decide) ?_
      refine bo_sub (L' := [(0, .ref (bo_a x 3)), (1, .int (w1 + 1))]) [2, 0] rfl ?_
      exact ih (w1 + 1) σ4
theorem bX6_loseOldest (x : bo_X) (hx : bo_OK x cX6_loseOldest RX6 3 0 0) (σ : bo_M) : bo_D x 0 [(0, .ref (bo_a x 3))] [] σ (mX6_loseOldest σ) (bo_Rv x cX6_loseOldest) := by
  unfold mX6_loseOldest
  refine bo_iconst (v := 1) hx dX6_loseOldest_0 (by decide) ?_
  refine bo_istore_n (L' := [(1, .int 1), (0, .ref (bo_a x 3))]) hx dX6_loseOldest_1 rfl (by decide) rfl ?_
  refine bo_sub (L' := [(0, .ref (bo_a x 3)), (1, .int 1)]) [1, 0] rfl ?_
  refine bo_seq 47 (fun a => [(0, .ref (bo_a x 3))]) (fun a => []) (fun a => a) (lX6_loseOldest_L2 x hx bo_fuel 1 σ) (fun a5 => ?_)
  refine bo_aload_n hx dX6_loseOldest_47 rfl 0 rfl ?_
  refine bo_dup hx dX6_loseOldest_48 rfl ?_
  refine gf_X6_18 hx dX6_loseOldest_49 ?_
  refine bo_iconst (v := 1) hx dX6_loseOldest_52 (by decide) ?_
  refine bo_isub hx dX6_loseOldest_53 ?_
  refine pf_X6_18 hx dX6_loseOldest_54 (fun σ6 => ?_)
  exact bo_retv dX6_loseOldest_57
theorem kX6_loseOldest (l : Launch) (g : bo_G) (hi : bo_inj g) (σ : bo_M) : bo_CV l g yX6_loseOldest cX6_loseOldest 3 none 0 0 [.ref (g.2.2 3)] σ (mX6_loseOldest σ) :=
  bo_metV rfl  (by decide) rfl hi (Nat.le_of_ble_eq_true rfl) (fun x e1 e2 hx => by subst e1; subst e2; exact bX6_loseOldest x hx σ)
-- BellRope$Past.evening
theorem dX6_evening_0 : decode cX6_evening 0 = .ok (.iload_n 1, 1) := by decide +kernel
theorem dX6_evening_22 : decode cX6_evening 22 = .ok (.aconst_null, 1) := by decide +kernel
theorem dX6_evening_23 : decode cX6_evening 23 = .ok (.areturn, 1) := by decide +kernel
theorem dX6_evening_4 : decode cX6_evening 4 = .ok (.iload_n 1, 1) := by decide +kernel
theorem dX6_evening_5 : decode cX6_evening 5 = .ok (.aload_n 0, 1) := by decide +kernel
theorem dX6_evening_6 : decode cX6_evening 6 = .ok (.getfield 11, 3) := by decide +kernel
theorem dX6_evening_9 : decode cX6_evening 9 = .ok (.arraylength, 1) := by decide +kernel
theorem dX6_evening_13 : decode cX6_evening 13 = .ok (.aload_n 0, 1) := by decide +kernel
theorem dX6_evening_14 : decode cX6_evening 14 = .ok (.getfield 11, 3) := by decide +kernel
theorem dX6_evening_17 : decode cX6_evening 17 = .ok (.iload_n 1, 1) := by decide +kernel
theorem dX6_evening_18 : decode cX6_evening 18 = .ok (.aaload, 1) := by decide +kernel
theorem dX6_evening_19 : decode cX6_evening 19 = .ok (.goto 4, 3) := by decide +kernel
theorem dX6_evening_10 : decode cX6_evening 10 = .ok (.if_icmp .ge 12, 3) := by decide +kernel
theorem dX6_evening_1 : decode cX6_evening 1 = .ok (.ifCond .lt 21, 3) := by decide +kernel
theorem bX6_evening (x : bo_X) (hx : bo_OK x cX6_evening RX6 2 0 0) (σ : bo_M) (p1 : Int32) : bo_D x 0 [(0, .ref (bo_a x 3)), (1, .int p1)] [] σ (mX6_evening σ p1) (bo_Rq x cX6_evening σ bo_ev) := by
  unfold mX6_evening
  refine bo_iload_n hx dX6_evening_0 rfl 1 rfl ?_
  refine bo_if_lt hx 22 dX6_evening_1 (by decide) ?_ ?_
  · refine bo_null hx dX6_evening_22 ?_
    exact bo_retq dX6_evening_23 rfl
  · refine bo_iload_n hx dX6_evening_4 rfl 1 rfl ?_
    refine bo_aload_n hx dX6_evening_5 rfl 0 rfl ?_
    refine gf_X6_11 hx dX6_evening_6 ?_
    refine bo_alenQ (v := 16) hx bo_c_4 rfl dX6_evening_9 ?_
    refine bo_icmp_ge hx 22 dX6_evening_10 (by decide) ?_ ?_
    · refine bo_null hx dX6_evening_22 ?_
      exact bo_retq dX6_evening_23 rfl
    · refine bo_aload_n hx dX6_evening_13 rfl 0 rfl ?_
      refine gf_X6_11 hx dX6_evening_14 ?_
      refine bo_iload_n hx dX6_evening_17 rfl 1 rfl ?_
      refine bo_aald hx bo_c_4 dX6_evening_18 (fun v1 => ?_)
      refine bo_goto hx 23 dX6_evening_19 (by decide) ?_
      exact bo_retq dX6_evening_23 rfl
theorem kX6_evening (l : Launch) (g : bo_G) (hi : bo_inj g) (σ : bo_M) (p1 : Int32) : bo_CQ l g yX6_evening cX6_evening 2 (some (.object "BellRope$Evening")) 0 0 [.ref (g.2.2 3), .int p1] σ bo_ev (mX6_evening σ p1) :=
  bo_metQ rfl  (by decide) rfl hi (Nat.le_of_ble_eq_true rfl) (fun x e1 e2 hx => by subst e1; subst e2; exact bX6_evening x hx σ p1)
-- BellRope$Rows.copy
theorem dX8_copy_0 : decode cX8_copy 0 = .ok (.aload_n 0, 1) := by decide +kernel
theorem dX8_copy_1 : decode cX8_copy 1 = .ok (.ifnull 7, 3) := by decide +kernel
theorem dX8_copy_4 : decode cX8_copy 4 = .ok (.aload_n 1, 1) := by decide +kernel
theorem dX8_copy_5 : decode cX8_copy 5 = .ok (.ifnonnull 4, 3) := by decide +kernel
theorem dX8_copy_9 : decode cX8_copy 9 = .ok (.iconst 0, 1) := by decide +kernel
theorem dX8_copy_10 : decode cX8_copy 10 = .ok (.istore_n 2, 1) := by decide +kernel
theorem dX8_copy_11 : decode cX8_copy 11 = .ok (.iload_n 2, 1) := by decide +kernel
theorem dX8_copy_12 : decode cX8_copy 12 = .ok (.aload_n 0, 1) := by decide +kernel
theorem dX8_copy_13 : decode cX8_copy 13 = .ok (.arraylength, 1) := by decide +kernel
theorem dX8_copy_17 : decode cX8_copy 17 = .ok (.iload_n 2, 1) := by decide +kernel
theorem dX8_copy_18 : decode cX8_copy 18 = .ok (.aload_n 1, 1) := by decide +kernel
theorem dX8_copy_19 : decode cX8_copy 19 = .ok (.arraylength, 1) := by decide +kernel
theorem dX8_copy_23 : decode cX8_copy 23 = .ok (.aload_n 1, 1) := by decide +kernel
theorem dX8_copy_24 : decode cX8_copy 24 = .ok (.iload_n 2, 1) := by decide +kernel
theorem dX8_copy_25 : decode cX8_copy 25 = .ok (.aload_n 0, 1) := by decide +kernel
theorem dX8_copy_26 : decode cX8_copy 26 = .ok (.iload_n 2, 1) := by decide +kernel
theorem dX8_copy_27 : decode cX8_copy 27 = .ok (.iaload, 1) := by decide +kernel
theorem dX8_copy_28 : decode cX8_copy 28 = .ok (.iastore, 1) := by decide +kernel
theorem dX8_copy_29 : decode cX8_copy 29 = .ok (.iinc 2 1, 3) := by decide +kernel
theorem dX8_copy_32 : decode cX8_copy 32 = .ok (.goto (-21), 3) := by decide +kernel
theorem dX8_copy_20 : decode cX8_copy 20 = .ok (.if_icmp .ge 15, 3) := by decide +kernel
theorem dX8_copy_14 : decode cX8_copy 14 = .ok (.if_icmp .ge 21, 3) := by decide +kernel
theorem dX8_copy_35 : decode cX8_copy 35 = .ok (.return_, 1) := by decide +kernel
theorem lX8_copy_L11 (x : bo_X) (hx : bo_OK x cX8_copy RX8 3 0 0) (n0 : Nat) (f0 : Nat) (n1 : Nat) (f1 : Nat) (hf0 : bo_isA f0 n0) (hf1 : bo_isA f1 n1) : ∀ (n : Nat) (w2 : Int32) (σ : bo_M), bo_D x 11 [(0, .ref (bo_a x f0)), (1, .ref (bo_a x f1)), (2, .int w2)] [] σ (mX8_copy_L11 n0 f0 n1 f1 n w2 σ) (fun a => bo_N x 35 [] [] a) := by
  intro n
  induction n with
  | zero => intro w2 σ; exact bo_none
  | succ n ih =>
    intro w2 σ
    rw [mX8_copy_L11]
    refine bo_iload_n hx dX8_copy_11 rfl 2 rfl ?_
    refine bo_aload_n hx dX8_copy_12 rfl 0 rfl ?_
    refine bo_alen (v := (Int32.ofNat n0)) hx hf0 rfl dX8_copy_13 ?_
    refine bo_icmp_ge hx 35 dX8_copy_14 (by decide) ?_ ?_
    · refine bo_sub (L' := []) [] rfl ?_
      exact bo_arr (fun h => h)
    · refine bo_iload_n hx dX8_copy_17 rfl 2 rfl ?_
      refine bo_aload_n hx dX8_copy_18 rfl 1 rfl ?_
      refine bo_alen (v := (Int32.ofNat n1)) hx hf1 rfl dX8_copy_19 ?_
      refine bo_icmp_ge hx 35 dX8_copy_20 (by decide) ?_ ?_
      · refine bo_sub (L' := []) [] rfl ?_
        exact bo_arr (fun h => h)
      · refine bo_aload_n hx dX8_copy_23 rfl 1 rfl ?_
        refine bo_iload_n hx dX8_copy_24 rfl 2 rfl ?_
        refine bo_aload_n hx dX8_copy_25 rfl 0 rfl ?_
        refine bo_iload_n hx dX8_copy_26 rfl 2 rfl ?_
        refine bo_iald hx hf0 dX8_copy_27 (fun v1 => ?_)
        refine bo_iast hx hf1 dX8_copy_28 (fun σ2 => ?_)
        refine bo_iinc (L' := [(2, .int (w2 + 1)), (0, .ref (bo_a x f0)), (1, .ref (bo_a x f1))]) (w := (w2 + 1)) hx dX8_copy_29 2 rfl rfl (by decide) rfl ?_
        refine bo_goto hx 11 dX8_copy_32 (by decide) ?_
        refine bo_sub (L' := [(0, .ref (bo_a x f0)), (1, .ref (bo_a x f1)), (2, .int (w2 + 1))]) [1, 2, 0] rfl ?_
        exact ih (w2 + 1) σ2
theorem bX8_copy (x : bo_X) (hx : bo_OK x cX8_copy RX8 3 0 0) (σ : bo_M) (n0 r0 : Nat) (n1 r1 : Nat) (hr0 : bo_isA r0 n0) (hr1 : bo_isA r1 n1) : bo_D x 0 [(0, .ref (bo_a x r0)), (1, .ref (bo_a x r1))] [] σ (mX8_copy σ n0 r0 n1 r1) (bo_Rv x cX8_copy) := by
  unfold mX8_copy
  refine bo_aload_n hx dX8_copy_0 rfl 0 rfl ?_
  refine bo_ifnull hx dX8_copy_1 ?_
  refine bo_aload_n hx dX8_copy_4 rfl 1 rfl ?_
  refine bo_ifnonnull hx 9 dX8_copy_5 (by decide) ?_
  refine bo_iconst (v := 0) hx dX8_copy_9 (by decide) ?_
  refine bo_istore_n (L' := [(2, .int 0), (0, .ref (bo_a x r0)), (1, .ref (bo_a x r1))]) hx dX8_copy_10 rfl (by decide) rfl ?_
  refine bo_sub (L' := [(0, .ref (bo_a x r0)), (1, .ref (bo_a x r1)), (2, .int 0)]) [1, 2, 0] rfl ?_
  refine bo_seq 35 (fun a => []) (fun a => []) (fun a => a) (lX8_copy_L11 x hx n0 r0 n1 r1 hr0 hr1 bo_fuel 0 σ) (fun a3 => ?_)
  exact bo_retv dX8_copy_35
theorem kX8_copy (l : Launch) (g : bo_G) (hi : bo_inj g) (σ : bo_M) (n0 r0 : Nat) (n1 r1 : Nat) (hr0 : bo_isA r0 n0) (hr1 : bo_isA r1 n1) : bo_CV l g yX8_copy cX8_copy 3 none 0 0 [.ref (g.2.2 r0), .ref (g.2.2 r1)] σ (mX8_copy σ n0 r0 n1 r1) :=
  bo_metV rfl  (by decide) rfl hi (Nat.le_of_ble_eq_true rfl) (fun x e1 e2 hx => by subst e1; subst e2; exact bX8_copy x hx σ n0 r0 n1 r1 hr0 hr1)
-- BellRope$Evening.become
theorem dX2_become_0 : decode cX2_become 0 = .ok (.aload_n 1, 1) := by decide +kernel
theorem dX2_become_1 : decode cX2_become 1 = .ok (.ifnonnull 4, 3) := by decide +kernel
theorem dX2_become_5 : decode cX2_become 5 = .ok (.aload_n 0, 1) := by decide +kernel
theorem dX2_become_6 : decode cX2_become 6 = .ok (.aload_n 1, 1) := by decide +kernel
theorem dX2_become_7 : decode cX2_become 7 = .ok (.getfield 24, 3) := by decide +kernel
theorem dX2_become_10 : decode cX2_become 10 = .ok (.putfield 24, 3) := by decide +kernel
theorem dX2_become_13 : decode cX2_become 13 = .ok (.aload_n 0, 1) := by decide +kernel
theorem dX2_become_14 : decode cX2_become 14 = .ok (.aload_n 1, 1) := by decide +kernel
theorem dX2_become_15 : decode cX2_become 15 = .ok (.getfield 28, 3) := by decide +kernel
theorem dX2_become_18 : decode cX2_become 18 = .ok (.putfield 28, 3) := by decide +kernel
theorem dX2_become_21 : decode cX2_become 21 = .ok (.aload_n 0, 1) := by decide +kernel
theorem dX2_become_22 : decode cX2_become 22 = .ok (.aload_n 1, 1) := by decide +kernel
theorem dX2_become_23 : decode cX2_become 23 = .ok (.getfield 31, 3) := by decide +kernel
theorem dX2_become_26 : decode cX2_become 26 = .ok (.putfield 31, 3) := by decide +kernel
theorem dX2_become_29 : decode cX2_become 29 = .ok (.aload_n 0, 1) := by decide +kernel
theorem dX2_become_30 : decode cX2_become 30 = .ok (.aload_n 1, 1) := by decide +kernel
theorem dX2_become_31 : decode cX2_become 31 = .ok (.getfield 34, 3) := by decide +kernel
theorem dX2_become_34 : decode cX2_become 34 = .ok (.putfield 34, 3) := by decide +kernel
theorem dX2_become_37 : decode cX2_become 37 = .ok (.aload_n 0, 1) := by decide +kernel
theorem dX2_become_38 : decode cX2_become 38 = .ok (.aload_n 1, 1) := by decide +kernel
theorem dX2_become_39 : decode cX2_become 39 = .ok (.getfield 37, 3) := by decide +kernel
theorem dX2_become_42 : decode cX2_become 42 = .ok (.putfield 37, 3) := by decide +kernel
theorem dX2_become_45 : decode cX2_become 45 = .ok (.aload_n 0, 1) := by decide +kernel
theorem dX2_become_46 : decode cX2_become 46 = .ok (.aload_n 1, 1) := by decide +kernel
theorem dX2_become_47 : decode cX2_become 47 = .ok (.getfield 40, 3) := by decide +kernel
theorem dX2_become_50 : decode cX2_become 50 = .ok (.putfield 40, 3) := by decide +kernel
theorem dX2_become_53 : decode cX2_become 53 = .ok (.aload_n 1, 1) := by decide +kernel
theorem dX2_become_54 : decode cX2_become 54 = .ok (.getfield 9, 3) := by decide +kernel
theorem dX2_become_57 : decode cX2_become 57 = .ok (.aload_n 0, 1) := by decide +kernel
theorem dX2_become_58 : decode cX2_become 58 = .ok (.getfield 9, 3) := by decide +kernel
theorem dX2_become_61 : decode cX2_become 61 = .ok (.invokestatic 49, 3) := by decide +kernel
theorem dX2_become_64 : decode cX2_become 64 = .ok (.aload_n 1, 1) := by decide +kernel
theorem dX2_become_65 : decode cX2_become 65 = .ok (.getfield 15, 3) := by decide +kernel
theorem dX2_become_68 : decode cX2_become 68 = .ok (.aload_n 0, 1) := by decide +kernel
theorem dX2_become_69 : decode cX2_become 69 = .ok (.getfield 15, 3) := by decide +kernel
theorem dX2_become_72 : decode cX2_become 72 = .ok (.invokestatic 49, 3) := by decide +kernel
theorem dX2_become_75 : decode cX2_become 75 = .ok (.aload_n 1, 1) := by decide +kernel
theorem dX2_become_76 : decode cX2_become 76 = .ok (.getfield 18, 3) := by decide +kernel
theorem dX2_become_79 : decode cX2_become 79 = .ok (.aload_n 0, 1) := by decide +kernel
theorem dX2_become_80 : decode cX2_become 80 = .ok (.getfield 18, 3) := by decide +kernel
theorem dX2_become_83 : decode cX2_become 83 = .ok (.invokestatic 49, 3) := by decide +kernel
theorem dX2_become_86 : decode cX2_become 86 = .ok (.aload_n 1, 1) := by decide +kernel
theorem dX2_become_87 : decode cX2_become 87 = .ok (.getfield 21, 3) := by decide +kernel
theorem dX2_become_90 : decode cX2_become 90 = .ok (.aload_n 0, 1) := by decide +kernel
theorem dX2_become_91 : decode cX2_become 91 = .ok (.getfield 21, 3) := by decide +kernel
theorem dX2_become_94 : decode cX2_become 94 = .ok (.invokestatic 49, 3) := by decide +kernel
theorem dX2_become_97 : decode cX2_become 97 = .ok (.return_, 1) := by decide +kernel
theorem bX2_become (x : bo_X) (hx : bo_OK x cX2_become RX2 2 1 22) (σ : bo_M) (o : Nat) (r1 : Nat) (ho : bo_isEv o) (hr1 : bo_isEv r1) : bo_D x 0 [(0, .ref (bo_a x o)), (1, .ref (bo_a x r1))] [] σ (mX2_become σ o r1) (bo_Rv x cX2_become) := by
  unfold mX2_become
  refine bo_aload_n hx dX2_become_0 rfl 1 rfl ?_
  refine bo_ifnonnull hx 5 dX2_become_1 (by decide) ?_
  refine bo_aload_n hx dX2_become_5 rfl 0 rfl ?_
  refine bo_aload_n hx dX2_become_6 rfl 1 rfl ?_
  refine gf_X2_24 hx hr1 dX2_become_7 ?_
  refine pf_X2_24 hx ho dX2_become_10 (fun σ1 => ?_)
  refine bo_aload_n hx dX2_become_13 rfl 0 rfl ?_
  refine bo_aload_n hx dX2_become_14 rfl 1 rfl ?_
  refine gf_X2_28 hx hr1 dX2_become_15 ?_
  refine pf_X2_28 hx ho dX2_become_18 (fun σ2 => ?_)
  refine bo_aload_n hx dX2_become_21 rfl 0 rfl ?_
  refine bo_aload_n hx dX2_become_22 rfl 1 rfl ?_
  refine gf_X2_31 hx hr1 dX2_become_23 ?_
  refine pf_X2_31 hx ho dX2_become_26 (fun σ3 => ?_)
  refine bo_aload_n hx dX2_become_29 rfl 0 rfl ?_
  refine bo_aload_n hx dX2_become_30 rfl 1 rfl ?_
  refine gf_X2_34 hx hr1 dX2_become_31 ?_
  refine pf_X2_34 hx ho dX2_become_34 (fun σ4 => ?_)
  refine bo_aload_n hx dX2_become_37 rfl 0 rfl ?_
  refine bo_aload_n hx dX2_become_38 rfl 1 rfl ?_
  refine gf_X2_37 hx hr1 dX2_become_39 ?_
  refine pf_X2_37 hx ho dX2_become_42 (fun σ5 => ?_)
  refine bo_aload_n hx dX2_become_45 rfl 0 rfl ?_
  refine bo_aload_n hx dX2_become_46 rfl 1 rfl ?_
  refine gf_X2_40 hx hr1 dX2_become_47 ?_
  refine pf_X2_40 hx ho dX2_become_50 (fun σ6 => ?_)
  refine bo_aload_n hx dX2_become_53 rfl 1 rfl ?_
  refine gf_X2_9 hx hr1 dX2_become_54 ?_
  refine bo_aload_n hx dX2_become_57 rfl 0 rfl ?_
  refine gf_X2_9 hx ho dX2_become_58 ?_
  refine bo_goV hx (fun rr hh => bo_runS (As := [.ref (bo_a x (r1 + 1)), .ref (bo_a x (o + 1))]) (S := []) hx dX2_become_61 lk_X2_49 ms_X8_copy (kX8_copy (bo_l x) (bo_g x) hx.inj σ6 7 (r1 + 1) 7 (o + 1) hr1.a1 ho.a1 rr hh) ⟨by decide, by decide⟩ rfl rfl (Nat.le_of_ble_eq_true rfl)) (fun σ7 => ?_)
  refine bo_aload_n hx dX2_become_64 rfl 1 rfl ?_
  refine gf_X2_15 hx hr1 dX2_become_65 ?_
  refine bo_aload_n hx dX2_become_68 rfl 0 rfl ?_
  refine gf_X2_15 hx ho dX2_become_69 ?_
  refine bo_goV hx (fun rr hh => bo_runS (As := [.ref (bo_a x (r1 + 2)), .ref (bo_a x (o + 2))]) (S := []) hx dX2_become_72 lk_X2_49 ms_X8_copy (kX8_copy (bo_l x) (bo_g x) hx.inj σ7 7 (r1 + 2) 7 (o + 2) hr1.a2 ho.a2 rr hh) ⟨by decide, by decide⟩ rfl rfl (Nat.le_of_ble_eq_true rfl)) (fun σ8 => ?_)
  refine bo_aload_n hx dX2_become_75 rfl 1 rfl ?_
  refine gf_X2_18 hx hr1 dX2_become_76 ?_
  refine bo_aload_n hx dX2_become_79 rfl 0 rfl ?_
  refine gf_X2_18 hx ho dX2_become_80 ?_
  refine bo_goV hx (fun rr hh => bo_runS (As := [.ref (bo_a x (r1 + 3)), .ref (bo_a x (o + 3))]) (S := []) hx dX2_become_83 lk_X2_49 ms_X8_copy (kX8_copy (bo_l x) (bo_g x) hx.inj σ8 40 (r1 + 3) 40 (o + 3) hr1.a3 ho.a3 rr hh) ⟨by decide, by decide⟩ rfl rfl (Nat.le_of_ble_eq_true rfl)) (fun σ9 => ?_)
  refine bo_aload_n hx dX2_become_86 rfl 1 rfl ?_
  refine gf_X2_21 hx hr1 dX2_become_87 ?_
  refine bo_aload_n hx dX2_become_90 rfl 0 rfl ?_
  refine gf_X2_21 hx ho dX2_become_91 ?_
  refine bo_goV hx (fun rr hh => bo_runS (As := [.ref (bo_a x (r1 + 4)), .ref (bo_a x (o + 4))]) (S := []) hx dX2_become_94 lk_X2_49 ms_X8_copy (kX8_copy (bo_l x) (bo_g x) hx.inj σ9 40 (r1 + 4) 40 (o + 4) hr1.a4 ho.a4 rr hh) ⟨by decide, by decide⟩ rfl rfl (Nat.le_of_ble_eq_true rfl)) (fun σ10 => ?_)
  exact bo_retv dX2_become_97
theorem kX2_become (l : Launch) (g : bo_G) (hi : bo_inj g) (σ : bo_M) (o : Nat) (r1 : Nat) (ho : bo_isEv o) (hr1 : bo_isEv r1) : bo_CV l g yX2_become cX2_become 2 none 1 22 [.ref (g.2.2 o), .ref (g.2.2 r1)] σ (mX2_become σ o r1) :=
  bo_metV rfl  (by decide) rfl hi (Nat.le_of_ble_eq_true rfl) (fun x e1 e2 hx => by subst e1; subst e2; exact bX2_become x hx σ o r1 ho hr1)
-- BellRope$Past.note
theorem dX6_note_0 : decode cX6_note 0 = .ok (.aload_n 0, 1) := by decide +kernel
theorem dX6_note_1 : decode cX6_note 1 = .ok (.getfield 18, 3) := by decide +kernel
theorem dX6_note_4 : decode cX6_note 4 = .ok (.bipush 16, 2) := by decide +kernel
theorem dX6_note_9 : decode cX6_note 9 = .ok (.aload_n 0, 1) := by decide +kernel
theorem dX6_note_10 : decode cX6_note 10 = .ok (.invokevirtual 22, 3) := by decide +kernel
theorem dX6_note_6 : decode cX6_note 6 = .ok (.if_icmp .lt 7, 3) := by decide +kernel
theorem dX6_note_13 : decode cX6_note 13 = .ok (.aload_n 0, 1) := by decide +kernel
theorem dX6_note_14 : decode cX6_note 14 = .ok (.aload_n 0, 1) := by decide +kernel
theorem dX6_note_15 : decode cX6_note 15 = .ok (.getfield 18, 3) := by decide +kernel
theorem dX6_note_18 : decode cX6_note 18 = .ok (.invokevirtual 25, 3) := by decide +kernel
theorem dX6_note_21 : decode cX6_note 21 = .ok (.astore_n 2, 1) := by decide +kernel
theorem dX6_note_22 : decode cX6_note 22 = .ok (.aload_n 2, 1) := by decide +kernel
theorem dX6_note_23 : decode cX6_note 23 = .ok (.ifnull 18, 3) := by decide +kernel
theorem dX6_note_41 : decode cX6_note 41 = .ok (.return_, 1) := by decide +kernel
theorem dX6_note_26 : decode cX6_note 26 = .ok (.aload_n 2, 1) := by decide +kernel
theorem dX6_note_27 : decode cX6_note 27 = .ok (.aload_n 1, 1) := by decide +kernel
theorem dX6_note_28 : decode cX6_note 28 = .ok (.invokevirtual 29, 3) := by decide +kernel
theorem dX6_note_31 : decode cX6_note 31 = .ok (.aload_n 0, 1) := by decide +kernel
theorem dX6_note_32 : decode cX6_note 32 = .ok (.dup, 1) := by decide +kernel
theorem dX6_note_33 : decode cX6_note 33 = .ok (.getfield 18, 3) := by decide +kernel
theorem dX6_note_36 : decode cX6_note 36 = .ok (.iconst 1, 1) := by decide +kernel
theorem dX6_note_37 : decode cX6_note 37 = .ok (.iadd, 1) := by decide +kernel
theorem dX6_note_38 : decode cX6_note 38 = .ok (.putfield 18, 3) := by decide +kernel
theorem bX6_note (x : bo_X) (hx : bo_OK x cX6_note RX6 3 2 43) (σ : bo_M) (r1 : Nat) (hr1 : bo_isEv r1) : bo_D x 0 [(0, .ref (bo_a x 3)), (1, .ref (bo_a x r1))] [] σ (mX6_note σ r1) (bo_Rv x cX6_note) := by
  unfold mX6_note
  refine bo_aload_n hx dX6_note_0 rfl 0 rfl ?_
  refine gf_X6_18 hx dX6_note_1 ?_
  refine bo_bipush (v := 16) hx dX6_note_4 (by decide) ?_
  refine bo_seq 13 (fun a => [(0, .ref (bo_a x 3)), (1, .ref (bo_a x r1))]) (fun a => []) (fun a => a) ?_ (fun a1 => ?_)
  · refine bo_icmp_lt hx 13 dX6_note_6 (by decide) ?_ ?_
    · exact bo_arr (fun h => h)
    · refine bo_aload_n hx dX6_note_9 rfl 0 rfl ?_
      refine bo_goV hx (fun rr hh => bo_runV (As := []) (S := []) hx dX6_note_10 lk_X6_22 mi_X6_loseOldest bo_o_3 rfl rfl (kX6_loseOldest (bo_l x) (bo_g x) hx.inj σ rr hh) ⟨by decide, by decide⟩ rfl rfl (Nat.le_of_ble_eq_true rfl)) (fun σ2 => ?_)
      exact bo_arr (fun h => h)
  · refine bo_aload_n hx dX6_note_13 rfl 0 rfl ?_
    refine bo_aload_n hx dX6_note_14 rfl 0 rfl ?_
    refine gf_X6_18 hx dX6_note_15 ?_
    refine bo_goQ hx (fun rr hh => bo_runV (As := [.int (a1 3 1)]) (S := []) hx dX6_note_18 lk_X6_25 mi_X6_evening bo_o_3 rfl rfl (kX6_evening (bo_l x) (bo_g x) hx.inj a1 (a1 3 1) rr hh) ⟨by decide, by decide⟩ rfl rfl (Nat.le_of_ble_eq_true rfl)) ?_ ?_
    · refine bo_astore_nN (L' := [(2, .null), (0, .ref (bo_a x 3)), (1, .ref (bo_a x r1))]) hx dX6_note_21 rfl (by decide) rfl ?_
      refine bo_aload_nN hx dX6_note_22 rfl 0 rfl ?_
      refine bo_ifnullN hx 41 dX6_note_23 (by decide) ?_
      exact bo_retv dX6_note_41
    · intro c3
      refine bo_astore_n (L' := [(2, .ref (bo_a x (bo_ev c3))), (0, .ref (bo_a x 3)), (1, .ref (bo_a x r1))]) hx dX6_note_21 rfl (by decide) rfl ?_
      refine bo_aload_n hx dX6_note_22 rfl 0 rfl ?_
      refine bo_ifnull hx dX6_note_23 ?_
      refine bo_aload_n hx dX6_note_26 rfl 0 rfl ?_
      refine bo_aload_n hx dX6_note_27 rfl 2 rfl ?_
      refine bo_goV hx (fun rr hh => bo_runV (As := [.ref (bo_a x r1)]) (S := []) hx dX6_note_28 lk_X6_29 mi_X2_become (bo_ev_ok c3).o rfl rfl (kX2_become (bo_l x) (bo_g x) hx.inj a1 (bo_ev c3) r1 (bo_ev_ok c3) hr1 rr hh) ⟨by decide, by decide⟩ rfl rfl (Nat.le_of_ble_eq_true rfl)) (fun σ4 => ?_)
      refine bo_aload_n hx dX6_note_31 rfl 1 rfl ?_
      refine bo_dup hx dX6_note_32 rfl ?_
      refine gf_X6_18 hx dX6_note_33 ?_
      refine bo_iconst (v := 1) hx dX6_note_36 (by decide) ?_
      refine bo_iadd hx dX6_note_37 ?_
      refine pf_X6_18 hx dX6_note_38 (fun σ5 => ?_)
      exact bo_retv dX6_note_41
theorem kX6_note (l : Launch) (g : bo_G) (hi : bo_inj g) (σ : bo_M) (r1 : Nat) (hr1 : bo_isEv r1) : bo_CV l g yX6_note cX6_note 3 none 2 43 [.ref (g.2.2 3), .ref (g.2.2 r1)] σ (mX6_note σ r1) :=
  bo_metV rfl  (by decide) rfl hi (Nat.le_of_ble_eq_true rfl) (fun x e1 e2 hx => by subst e1; subst e2; exact bX6_note x hx σ r1 hr1)
-- java/lang/Integer.bitCount
theorem dJ6_bitCount_0f7a4_0 : decode cJ6_bitCount_0f7a4 0 = .ok (.iload_n 0, 1) := by decide +kernel
theorem dJ6_bitCount_0f7a4_1 : decode cJ6_bitCount_0f7a4 1 = .ok (.iload_n 0, 1) := by decide +kernel
theorem dJ6_bitCount_0f7a4_2 : decode cJ6_bitCount_0f7a4 2 = .ok (.iconst 1, 1) := by decide +kernel
theorem dJ6_bitCount_0f7a4_3 : decode cJ6_bitCount_0f7a4 3 = .ok (.iushr, 1) := by decide +kernel
theorem dJ6_bitCount_0f7a4_4 : decode cJ6_bitCount_0f7a4 4 = .ok (.ldc_w 265, 3) := by decide +kernel
theorem dJ6_bitCount_0f7a4_7 : decode cJ6_bitCount_0f7a4 7 = .ok (.iand, 1) := by decide +kernel
theorem dJ6_bitCount_0f7a4_8 : decode cJ6_bitCount_0f7a4 8 = .ok (.isub, 1) := by decide +kernel
theorem dJ6_bitCount_0f7a4_9 : decode cJ6_bitCount_0f7a4 9 = .ok (.istore_n 0, 1) := by decide +kernel
theorem dJ6_bitCount_0f7a4_10 : decode cJ6_bitCount_0f7a4 10 = .ok (.iload_n 0, 1) := by decide +kernel
theorem dJ6_bitCount_0f7a4_11 : decode cJ6_bitCount_0f7a4 11 = .ok (.ldc_w 266, 3) := by decide +kernel
theorem dJ6_bitCount_0f7a4_14 : decode cJ6_bitCount_0f7a4 14 = .ok (.iand, 1) := by decide +kernel
theorem dJ6_bitCount_0f7a4_15 : decode cJ6_bitCount_0f7a4 15 = .ok (.iload_n 0, 1) := by decide +kernel
theorem dJ6_bitCount_0f7a4_16 : decode cJ6_bitCount_0f7a4 16 = .ok (.iconst 2, 1) := by decide +kernel
theorem dJ6_bitCount_0f7a4_17 : decode cJ6_bitCount_0f7a4 17 = .ok (.iushr, 1) := by decide +kernel
theorem dJ6_bitCount_0f7a4_18 : decode cJ6_bitCount_0f7a4 18 = .ok (.ldc_w 266, 3) := by decide +kernel
theorem dJ6_bitCount_0f7a4_21 : decode cJ6_bitCount_0f7a4 21 = .ok (.iand, 1) := by decide +kernel
theorem dJ6_bitCount_0f7a4_22 : decode cJ6_bitCount_0f7a4 22 = .ok (.iadd, 1) := by decide +kernel
theorem dJ6_bitCount_0f7a4_23 : decode cJ6_bitCount_0f7a4 23 = .ok (.istore_n 0, 1) := by decide +kernel
theorem dJ6_bitCount_0f7a4_24 : decode cJ6_bitCount_0f7a4 24 = .ok (.iload_n 0, 1) := by decide +kernel
theorem dJ6_bitCount_0f7a4_25 : decode cJ6_bitCount_0f7a4 25 = .ok (.iload_n 0, 1) := by decide +kernel
theorem dJ6_bitCount_0f7a4_26 : decode cJ6_bitCount_0f7a4 26 = .ok (.iconst 4, 1) := by decide +kernel
theorem dJ6_bitCount_0f7a4_27 : decode cJ6_bitCount_0f7a4 27 = .ok (.iushr, 1) := by decide +kernel
theorem dJ6_bitCount_0f7a4_28 : decode cJ6_bitCount_0f7a4 28 = .ok (.iadd, 1) := by decide +kernel
theorem dJ6_bitCount_0f7a4_29 : decode cJ6_bitCount_0f7a4 29 = .ok (.ldc_w 267, 3) := by decide +kernel
theorem dJ6_bitCount_0f7a4_32 : decode cJ6_bitCount_0f7a4 32 = .ok (.iand, 1) := by decide +kernel
theorem dJ6_bitCount_0f7a4_33 : decode cJ6_bitCount_0f7a4 33 = .ok (.istore_n 0, 1) := by decide +kernel
theorem dJ6_bitCount_0f7a4_34 : decode cJ6_bitCount_0f7a4 34 = .ok (.iload_n 0, 1) := by decide +kernel
theorem dJ6_bitCount_0f7a4_35 : decode cJ6_bitCount_0f7a4 35 = .ok (.iload_n 0, 1) := by decide +kernel
theorem dJ6_bitCount_0f7a4_36 : decode cJ6_bitCount_0f7a4 36 = .ok (.bipush 8, 2) := by decide +kernel
theorem dJ6_bitCount_0f7a4_38 : decode cJ6_bitCount_0f7a4 38 = .ok (.iushr, 1) := by decide +kernel
theorem dJ6_bitCount_0f7a4_39 : decode cJ6_bitCount_0f7a4 39 = .ok (.iadd, 1) := by decide +kernel
theorem dJ6_bitCount_0f7a4_40 : decode cJ6_bitCount_0f7a4 40 = .ok (.istore_n 0, 1) := by decide +kernel
theorem dJ6_bitCount_0f7a4_41 : decode cJ6_bitCount_0f7a4 41 = .ok (.iload_n 0, 1) := by decide +kernel
theorem dJ6_bitCount_0f7a4_42 : decode cJ6_bitCount_0f7a4 42 = .ok (.iload_n 0, 1) := by decide +kernel
theorem dJ6_bitCount_0f7a4_43 : decode cJ6_bitCount_0f7a4 43 = .ok (.bipush 16, 2) := by decide +kernel
theorem dJ6_bitCount_0f7a4_45 : decode cJ6_bitCount_0f7a4 45 = .ok (.iushr, 1) := by decide +kernel
theorem dJ6_bitCount_0f7a4_46 : decode cJ6_bitCount_0f7a4 46 = .ok (.iadd, 1) := by decide +kernel
theorem dJ6_bitCount_0f7a4_47 : decode cJ6_bitCount_0f7a4 47 = .ok (.istore_n 0, 1) := by decide +kernel
theorem dJ6_bitCount_0f7a4_48 : decode cJ6_bitCount_0f7a4 48 = .ok (.iload_n 0, 1) := by decide +kernel
theorem dJ6_bitCount_0f7a4_49 : decode cJ6_bitCount_0f7a4 49 = .ok (.bipush 63, 2) := by decide +kernel
theorem dJ6_bitCount_0f7a4_51 : decode cJ6_bitCount_0f7a4 51 = .ok (.iand, 1) := by decide +kernel
theorem dJ6_bitCount_0f7a4_52 : decode cJ6_bitCount_0f7a4 52 = .ok (.ireturn, 1) := by decide +kernel
theorem bJ6_bitCount_0f7a4 (x : bo_X) (hx : bo_OK x cJ6_bitCount_0f7a4 RJ6 1 0 0) (σ : bo_M) (p0 : Int32) : bo_D x 0 [(0, .int p0)] [] σ (mJ6_bitCount_0f7a4 σ p0) (bo_Ri x cJ6_bitCount_0f7a4 σ false) := by
  unfold mJ6_bitCount_0f7a4
  refine bo_iload_n hx dJ6_bitCount_0f7a4_0 rfl 0 rfl ?_
  refine bo_iload_n hx dJ6_bitCount_0f7a4_1 rfl 0 rfl ?_
  refine bo_iconst (v := 1) hx dJ6_bitCount_0f7a4_2 (by decide) ?_
  refine bo_iushr hx dJ6_bitCount_0f7a4_3 ?_
  refine bo_ldcw (v := 1431655765) hx dJ6_bitCount_0f7a4_4 wc_J6_265 ?_
  refine bo_iand hx dJ6_bitCount_0f7a4_7 ?_
  refine bo_isub hx dJ6_bitCount_0f7a4_8 ?_
  refine bo_istore_n (L' := [(0, .int (p0 - ((((p0).toUInt32 >>> ((1 : Int32).toUInt32 &&& Int32.toUInt32 31)).toInt32) &&& 1431655765)))]) hx dJ6_bitCount_0f7a4_9 rfl (by decide) rfl ?_
  refine bo_iload_n hx dJ6_bitCount_0f7a4_10 rfl 0 rfl ?_
  refine bo_ldcw (v := 858993459) hx dJ6_bitCount_0f7a4_11 wc_J6_266 ?_
  refine bo_iand hx dJ6_bitCount_0f7a4_14 ?_
  refine bo_iload_n hx dJ6_bitCount_0f7a4_15 rfl 0 rfl ?_
  refine bo_iconst (v := 2) hx dJ6_bitCount_0f7a4_16 (by decide) ?_
  refine bo_iushr hx dJ6_bitCount_0f7a4_17 ?_
  refine bo_ldcw (v := 858993459) hx dJ6_bitCount_0f7a4_18 wc_J6_266 ?_
  refine bo_iand hx dJ6_bitCount_0f7a4_21 ?_
  refine bo_iadd hx dJ6_bitCount_0f7a4_22 ?_
  refine bo_istore_n (L' := [(0, .int (((p0 - ((((p0).toUInt32 >>> ((1 : Int32).toUInt32 &&& Int32.toUInt32 31)).toInt32) &&& 1431655765)) &&& 858993459) + (((((p0 - ((((p0).toUInt32 >>> ((1 : Int32).toUInt32 &&& Int32.toUInt32 31)).toInt32) &&& 1431655765))).toUInt32 >>> ((2 : Int32).toUInt32 &&& Int32.toUInt32 31)).toInt32) &&& 858993459)))]) hx dJ6_bitCount_0f7a4_23 rfl (by decide) rfl ?_
  refine bo_iload_n hx dJ6_bitCount_0f7a4_24 rfl 0 rfl ?_
  refine bo_iload_n hx dJ6_bitCount_0f7a4_25 rfl 0 rfl ?_
  refine bo_iconst (v := 4) hx dJ6_bitCount_0f7a4_26 (by decide) ?_
  refine bo_iushr hx dJ6_bitCount_0f7a4_27 ?_
  refine bo_iadd hx dJ6_bitCount_0f7a4_28 ?_
  refine bo_ldcw (v := 252645135) hx dJ6_bitCount_0f7a4_29 wc_J6_267 ?_
  refine bo_iand hx dJ6_bitCount_0f7a4_32 ?_
  refine bo_istore_n (L' := [(0, .int (((((p0 - ((((p0).toUInt32 >>> ((1 : Int32).toUInt32 &&& Int32.toUInt32 31)).toInt32) &&& 1431655765)) &&& 858993459) + (((((p0 - ((((p0).toUInt32 >>> ((1 : Int32).toUInt32 &&& Int32.toUInt32 31)).toInt32) &&& 1431655765))).toUInt32 >>> ((2 : Int32).toUInt32 &&& Int32.toUInt32 31)).toInt32) &&& 858993459)) + ((((((p0 - ((((p0).toUInt32 >>> ((1 : Int32).toUInt32 &&& Int32.toUInt32 31)).toInt32) &&& 1431655765)) &&& 858993459) + (((((p0 - ((((p0).toUInt32 >>> ((1 : Int32).toUInt32 &&& Int32.toUInt32 31)).toInt32) &&& 1431655765))).toUInt32 >>> ((2 : Int32).toUInt32 &&& Int32.toUInt32 31)).toInt32) &&& 858993459))).toUInt32 >>> ((4 : Int32).toUInt32 &&& Int32.toUInt32 31)).toInt32)) &&& 252645135))]) hx dJ6_bitCount_0f7a4_33 rfl (by decide) rfl ?_
  refine bo_iload_n hx dJ6_bitCount_0f7a4_34 rfl 0 rfl ?_
  refine bo_iload_n hx dJ6_bitCount_0f7a4_35 rfl 0 rfl ?_
  refine bo_bipush (v := 8) hx dJ6_bitCount_0f7a4_36 (by decide) ?_
  refine bo_iushr hx dJ6_bitCount_0f7a4_38 ?_
  refine bo_iadd hx dJ6_bitCount_0f7a4_39 ?_
  refine bo_istore_n (L' := [(0, .int ((((((p0 - ((((p0).toUInt32 >>> ((1 : Int32).toUInt32 &&& Int32.toUInt32 31)).toInt32) &&& 1431655765)) &&& 858993459) + (((((p0 - ((((p0).toUInt32 >>> ((1 : Int32).toUInt32 &&& Int32.toUInt32 31)).toInt32) &&& 1431655765))).toUInt32 >>> ((2 : Int32).toUInt32 &&& Int32.toUInt32 31)).toInt32) &&& 858993459)) + ((((((p0 - ((((p0).toUInt32 >>> ((1 : Int32).toUInt32 &&& Int32.toUInt32 31)).toInt32) &&& 1431655765)) &&& 858993459) + (((((p0 - ((((p0).toUInt32 >>> ((1 : Int32).toUInt32 &&& Int32.toUInt32 31)).toInt32) &&& 1431655765))).toUInt32 >>> ((2 : Int32).toUInt32 &&& Int32.toUInt32 31)).toInt32) &&& 858993459))).toUInt32 >>> ((4 : Int32).toUInt32 &&& Int32.toUInt32 31)).toInt32)) &&& 252645135) + ((((((((p0 - ((((p0).toUInt32 >>> ((1 : Int32).toUInt32 &&& Int32.toUInt32 31)).toInt32) &&& 1431655765)) &&& 858993459) + (((((p0 - ((((p0).toUInt32 >>> ((1 : Int32).toUInt32 &&& Int32.toUInt32 31)).toInt32) &&& 1431655765))).toUInt32 >>> ((2 : Int32).toUInt32 &&& Int32.toUInt32 31)).toInt32) &&& 858993459)) + ((((((p0 - ((((p0).toUInt32 >>> ((1 : Int32).toUInt32 &&& Int32.toUInt32 31)).toInt32) &&& 1431655765)) &&& 858993459) + (((((p0 - ((((p0).toUInt32 >>> ((1 : Int32).toUInt32 &&& Int32.toUInt32 31)).toInt32) &&& 1431655765))).toUInt32 >>> ((2 : Int32).toUInt32 &&& Int32.toUInt32 31)).toInt32) &&& 858993459))).toUInt32 >>> ((4 : Int32).toUInt32 &&& Int32.toUInt32 31)).toInt32)) &&& 252645135)).toUInt32 >>> ((8 : Int32).toUInt32 &&& Int32.toUInt32 31)).toInt32)))]) hx dJ6_bitCount_0f7a4_40 rfl (by decide) rfl ?_
  refine bo_iload_n hx dJ6_bitCount_0f7a4_41 rfl 0 rfl ?_
  refine bo_iload_n hx dJ6_bitCount_0f7a4_42 rfl 0 rfl ?_
  refine bo_bipush (v := 16) hx dJ6_bitCount_0f7a4_43 (by decide) ?_
  refine bo_iushr hx dJ6_bitCount_0f7a4_45 ?_
  refine bo_iadd hx dJ6_bitCount_0f7a4_46 ?_
  refine bo_istore_n (L' := [(0, .int (((((((p0 - ((((p0).toUInt32 >>> ((1 : Int32).toUInt32 &&& Int32.toUInt32 31)).toInt32) &&& 1431655765)) &&& 858993459) + (((((p0 - ((((p0).toUInt32 >>> ((1 : Int32).toUInt32 &&& Int32.toUInt32 31)).toInt32) &&& 1431655765))).toUInt32 >>> ((2 : Int32).toUInt32 &&& Int32.toUInt32 31)).toInt32) &&& 858993459)) + ((((((p0 - ((((p0).toUInt32 >>> ((1 : Int32).toUInt32 &&& Int32.toUInt32 31)).toInt32) &&& 1431655765)) &&& 858993459) + (((((p0 - ((((p0).toUInt32 >>> ((1 : Int32).toUInt32 &&& Int32.toUInt32 31)).toInt32) &&& 1431655765))).toUInt32 >>> ((2 : Int32).toUInt32 &&& Int32.toUInt32 31)).toInt32) &&& 858993459))).toUInt32 >>> ((4 : Int32).toUInt32 &&& Int32.toUInt32 31)).toInt32)) &&& 252645135) + ((((((((p0 - ((((p0).toUInt32 >>> ((1 : Int32).toUInt32 &&& Int32.toUInt32 31)).toInt32) &&& 1431655765)) &&& 858993459) + (((((p0 - ((((p0).toUInt32 >>> ((1 : Int32).toUInt32 &&& Int32.toUInt32 31)).toInt32) &&& 1431655765))).toUInt32 >>> ((2 : Int32).toUInt32 &&& Int32.toUInt32 31)).toInt32) &&& 858993459)) + ((((((p0 - ((((p0).toUInt32 >>> ((1 : Int32).toUInt32 &&& Int32.toUInt32 31)).toInt32) &&& 1431655765)) &&& 858993459) + (((((p0 - ((((p0).toUInt32 >>> ((1 : Int32).toUInt32 &&& Int32.toUInt32 31)).toInt32) &&& 1431655765))).toUInt32 >>> ((2 : Int32).toUInt32 &&& Int32.toUInt32 31)).toInt32) &&& 858993459))).toUInt32 >>> ((4 : Int32).toUInt32 &&& Int32.toUInt32 31)).toInt32)) &&& 252645135)).toUInt32 >>> ((8 : Int32).toUInt32 &&& Int32.toUInt32 31)).toInt32)) + (((((((((p0 - ((((p0).toUInt32 >>> ((1 : Int32).toUInt32 &&& Int32.toUInt32 31)).toInt32) &&& 1431655765)) &&& 858993459) + (((((p0 - ((((p0).toUInt32 >>> ((1 : Int32).toUInt32 &&& Int32.toUInt32 31)).toInt32) &&& 1431655765))).toUInt32 >>> ((2 : Int32).toUInt32 &&& Int32.toUInt32 31)).toInt32) &&& 858993459)) + ((((((p0 - ((((p0).toUInt32 >>> ((1 : Int32).toUInt32 &&& Int32.toUInt32 31)).toInt32) &&& 1431655765)) &&& 858993459) + (((((p0 - ((((p0).toUInt32 >>> ((1 : Int32).toUInt32 &&& Int32.toUInt32 31)).toInt32) &&& 1431655765))).toUInt32 >>> ((2 : Int32).toUInt32 &&& Int32.toUInt32 31)).toInt32) &&& 858993459))).toUInt32 >>> ((4 : Int32).toUInt32 &&& Int32.toUInt32 31)).toInt32)) &&& 252645135) + ((((((((p0 - ((((p0).toUInt32 >>> ((1 : Int32).toUInt32 &&& Int32.toUInt32 31)).toInt32) &&& 1431655765)) &&& 858993459) + (((((p0 - ((((p0).toUInt32 >>> ((1 : Int32).toUInt32 &&& Int32.toUInt32 31)).toInt32) &&& 1431655765))).toUInt32 >>> ((2 : Int32).toUInt32 &&& Int32.toUInt32 31)).toInt32) &&& 858993459)) + ((((((p0 - ((((p0).toUInt32 >>> ((1 : Int32).toUInt32 &&& Int32.toUInt32 31)).toInt32) &&& 1431655765)) &&& 858993459) + (((((p0 - ((((p0).toUInt32 >>> ((1 : Int32).toUInt32 &&& Int32.toUInt32 31)).toInt32) &&& 1431655765))).toUInt32 >>> ((2 : Int32).toUInt32 &&& Int32.toUInt32 31)).toInt32) &&& 858993459))).toUInt32 >>> ((4 : Int32).toUInt32 &&& Int32.toUInt32 31)).toInt32)) &&& 252645135)).toUInt32 >>> ((8 : Int32).toUInt32 &&& Int32.toUInt32 31)).toInt32))).toUInt32 >>> ((16 : Int32).toUInt32 &&& Int32.toUInt32 31)).toInt32)))]) hx dJ6_bitCount_0f7a4_47 rfl (by decide) rfl ?_
  refine bo_iload_n hx dJ6_bitCount_0f7a4_48 rfl 0 rfl ?_
  refine bo_bipush (v := 63) hx dJ6_bitCount_0f7a4_49 (by decide) ?_
  refine bo_iand hx dJ6_bitCount_0f7a4_51 ?_
  exact bo_ret dJ6_bitCount_0f7a4_52 (fun h => by cases h)
theorem kJ6_bitCount_0f7a4 (l : Launch) (g : bo_G) (hi : bo_inj g) (σ : bo_M) (p0 : Int32) : bo_CR l g yJ6_bitCount_0f7a4 cJ6_bitCount_0f7a4 1 (some .int) 0 0 [.int p0] σ false (mJ6_bitCount_0f7a4 σ p0) :=
  bo_metR rfl (Or.inl ⟨rfl, rfl⟩) (by decide) rfl hi (Nat.le_of_ble_eq_true rfl) (fun x e1 e2 hx => by subst e1; subst e2; exact bJ6_bitCount_0f7a4 x hx σ p0)
-- BellRope$Inn.sextonAt
theorem dX4_sextonAt_0 : decode cX4_sextonAt 0 = .ok (.aload_n 0, 1) := by decide +kernel
theorem dX4_sextonAt_1 : decode cX4_sextonAt 1 = .ok (.getfield 30, 3) := by decide +kernel
theorem dX4_sextonAt_4 : decode cX4_sextonAt 4 = .ok (.iload_n 1, 1) := by decide +kernel
theorem dX4_sextonAt_5 : decode cX4_sextonAt 5 = .ok (.invokestatic 65, 3) := by decide +kernel
theorem dX4_sextonAt_8 : decode cX4_sextonAt 8 = .ok (.iconst 1, 1) := by decide +kernel
theorem dX4_sextonAt_16 : decode cX4_sextonAt 16 = .ok (.iconst 0, 1) := by decide +kernel
theorem dX4_sextonAt_17 : decode cX4_sextonAt 17 = .ok (.ireturn, 1) := by decide +kernel
theorem dX4_sextonAt_12 : decode cX4_sextonAt 12 = .ok (.iconst 1, 1) := by decide +kernel
theorem dX4_sextonAt_13 : decode cX4_sextonAt 13 = .ok (.goto 4, 3) := by decide +kernel
theorem dX4_sextonAt_9 : decode cX4_sextonAt 9 = .ok (.if_icmp .ne 7, 3) := by decide +kernel
theorem bX4_sextonAt (x : bo_X) (hx : bo_OK x cX4_sextonAt RX4 2 1 21) (σ : bo_M) (o : Nat) (p1 : Int32) (ho : bo_isInn o) : bo_D x 0 [(0, .ref (bo_a x o)), (1, .int p1)] [] σ (mX4_sextonAt σ o p1) (bo_Ri x cX4_sextonAt σ true) := by
  unfold mX4_sextonAt
  refine bo_aload_n hx dX4_sextonAt_0 rfl 0 rfl ?_
  refine gf_X4_30 hx ho dX4_sextonAt_1 ?_
  refine bo_iload_n hx dX4_sextonAt_4 rfl 1 rfl ?_
  refine bo_goR (z := false) hx (fun rr hh => bo_runS (As := [.ref (bo_a x (o + 7)), .int p1]) (S := []) hx dX4_sextonAt_5 lk_X4_65 ms_X8_at (kX8_at (bo_l x) (bo_g x) hx.inj σ 96 (o + 7) p1 ho.a7 rr hh) ⟨by decide, by decide⟩ rfl rfl (Nat.le_of_ble_eq_true rfl)) (fun v1 hv1 => ?_)
  refine bo_iconst (v := 1) hx dX4_sextonAt_8 (by decide) ?_
  refine bo_icmp_ne hx 16 dX4_sextonAt_9 (by decide) ?_ ?_
  · refine bo_iconst (v := 0) hx dX4_sextonAt_16 (by decide) ?_
    exact bo_ret dX4_sextonAt_17 (fun _ => bo_b_0)
  · refine bo_iconst (v := 1) hx dX4_sextonAt_12 (by decide) ?_
    refine bo_goto hx 17 dX4_sextonAt_13 (by decide) ?_
    exact bo_ret dX4_sextonAt_17 (fun _ => bo_b_1)
theorem kX4_sextonAt (l : Launch) (g : bo_G) (hi : bo_inj g) (σ : bo_M) (o : Nat) (p1 : Int32) (ho : bo_isInn o) : bo_CR l g yX4_sextonAt cX4_sextonAt 2 (some .boolean) 1 21 [.ref (g.2.2 o), .int p1] σ true (mX4_sextonAt σ o p1) :=
  bo_metR rfl (Or.inr ⟨rfl, rfl⟩) (by decide) rfl hi (Nat.le_of_ble_eq_true rfl) (fun x e1 e2 hx => by subst e1; subst e2; exact bX4_sextonAt x hx σ o p1 ho)
-- BellRope$Inn.echoed
theorem dX4_echoed_0 : decode cX4_echoed 0 = .ok (.iconst 0, 1) := by decide +kernel
theorem dX4_echoed_1 : decode cX4_echoed 1 = .ok (.iload_n 1, 1) := by decide +kernel
theorem dX4_echoed_2 : decode cX4_echoed 2 = .ok (.iload_n 2, 1) := by decide +kernel
theorem dX4_echoed_3 : decode cX4_echoed 3 = .ok (.isub, 1) := by decide +kernel
theorem dX4_echoed_4 : decode cX4_echoed 4 = .ok (.invokestatic 69, 3) := by decide +kernel
theorem dX4_echoed_7 : decode cX4_echoed 7 = .ok (.istore_n 3, 1) := by decide +kernel
theorem dX4_echoed_8 : decode cX4_echoed 8 = .ok (.iload_n 3, 1) := by decide +kernel
theorem dX4_echoed_9 : decode cX4_echoed 9 = .ok (.iconst 1, 1) := by decide +kernel
theorem dX4_echoed_22 : decode cX4_echoed 22 = .ok (.iconst 0, 1) := by decide +kernel
theorem dX4_echoed_23 : decode cX4_echoed 23 = .ok (.ireturn, 1) := by decide +kernel
theorem dX4_echoed_13 : decode cX4_echoed 13 = .ok (.iload_n 3, 1) := by decide +kernel
theorem dX4_echoed_14 : decode cX4_echoed 14 = .ok (.aload_n 0, 1) := by decide +kernel
theorem dX4_echoed_15 : decode cX4_echoed 15 = .ok (.getfield 37, 3) := by decide +kernel
theorem dX4_echoed_18 : decode cX4_echoed 18 = .ok (.iadd, 1) := by decide +kernel
theorem dX4_echoed_19 : decode cX4_echoed 19 = .ok (.goto 4, 3) := by decide +kernel
theorem dX4_echoed_10 : decode cX4_echoed 10 = .ok (.if_icmp .lt 12, 3) := by decide +kernel
theorem bX4_echoed (x : bo_X) (hx : bo_OK x cX4_echoed RX4 4 1 24) (σ : bo_M) (o : Nat) (p1 : Int32) (p2 : Int32) (ho : bo_isInn o) : bo_D x 0 [(0, .ref (bo_a x o)), (1, .int p1), (2, .int p2)] [] σ (mX4_echoed σ o p1 p2) (bo_Ri x cX4_echoed σ false) := by
  unfold mX4_echoed
  refine bo_iconst (v := 0) hx dX4_echoed_0 (by decide) ?_
  refine bo_iload_n hx dX4_echoed_1 rfl 1 rfl ?_
  refine bo_iload_n hx dX4_echoed_2 rfl 2 rfl ?_
  refine bo_isub hx dX4_echoed_3 ?_
  refine bo_max hx dX4_echoed_4 lk_X4_69 mm_max_1 mm_i mm_max_2 (by decide) (Nat.le_of_ble_eq_true rfl) ?_
  refine bo_istore_n (L' := [(3, .int (if 0 < (p1 - p2) then (p1 - p2) else 0)), (0, .ref (bo_a x o)), (1, .int p1), (2, .int p2)]) hx dX4_echoed_7 rfl (by decide) rfl ?_
  refine bo_iload_n hx dX4_echoed_8 rfl 0 rfl ?_
  refine bo_iconst (v := 1) hx dX4_echoed_9 (by decide) ?_
  refine bo_icmp_lt hx 22 dX4_echoed_10 (by decide) ?_ ?_
  · refine bo_iconst (v := 0) hx dX4_echoed_22 (by decide) ?_
    exact bo_ret dX4_echoed_23 (fun h => by cases h)
  · refine bo_iload_n hx dX4_echoed_13 rfl 0 rfl ?_
    refine bo_aload_n hx dX4_echoed_14 rfl 1 rfl ?_
    refine gf_X4_37 hx ho dX4_echoed_15 ?_
    refine bo_iadd hx dX4_echoed_18 ?_
    refine bo_goto hx 23 dX4_echoed_19 (by decide) ?_
    exact bo_ret dX4_echoed_23 (fun h => by cases h)
theorem kX4_echoed (l : Launch) (g : bo_G) (hi : bo_inj g) (σ : bo_M) (o : Nat) (p1 : Int32) (p2 : Int32) (ho : bo_isInn o) : bo_CR l g yX4_echoed cX4_echoed 4 (some .int) 1 24 [.ref (g.2.2 o), .int p1, .int p2] σ false (mX4_echoed σ o p1 p2) :=
  bo_metR rfl (Or.inl ⟨rfl, rfl⟩) (by decide) rfl hi (Nat.le_of_ble_eq_true rfl) (fun x e1 e2 hx => by subst e1; subst e2; exact bX4_echoed x hx σ o p1 p2 ho)
-- BellRope$Evening.heardOf
theorem dX2_heardOf_0 : decode cX2_heardOf 0 = .ok (.aload_n 0, 1) := by decide +kernel
theorem dX2_heardOf_1 : decode cX2_heardOf 1 = .ok (.getfield 34, 3) := by decide +kernel
theorem dX2_heardOf_21 : decode cX2_heardOf 21 = .ok (.iconst 1, 1) := by decide +kernel
theorem dX2_heardOf_22 : decode cX2_heardOf 22 = .ok (.goto 4, 3) := by decide +kernel
theorem dX2_heardOf_7 : decode cX2_heardOf 7 = .ok (.aload_n 1, 1) := by decide +kernel
theorem dX2_heardOf_8 : decode cX2_heardOf 8 = .ok (.aload_n 0, 1) := by decide +kernel
theorem dX2_heardOf_9 : decode cX2_heardOf 9 = .ok (.getfield 24, 3) := by decide +kernel
theorem dX2_heardOf_12 : decode cX2_heardOf 12 = .ok (.bipush 96, 2) := by decide +kernel
theorem dX2_heardOf_14 : decode cX2_heardOf 14 = .ok (.irem, 1) := by decide +kernel
theorem dX2_heardOf_15 : decode cX2_heardOf 15 = .ok (.invokevirtual 92, 3) := by decide +kernel
theorem dX2_heardOf_25 : decode cX2_heardOf 25 = .ok (.iconst 0, 1) := by decide +kernel
theorem dX2_heardOf_18 : decode cX2_heardOf 18 = .ok (.ifCond .eq 7, 3) := by decide +kernel
theorem dX2_heardOf_4 : decode cX2_heardOf 4 = .ok (.ifCond .gt 17, 3) := by decide +kernel
theorem dX2_heardOf_26 : decode cX2_heardOf 26 = .ok (.istore_n 3, 1) := by decide +kernel
theorem dX2_heardOf_27 : decode cX2_heardOf 27 = .ok (.aload_n 1, 1) := by decide +kernel
theorem dX2_heardOf_28 : decode cX2_heardOf 28 = .ok (.aload_n 0, 1) := by decide +kernel
theorem dX2_heardOf_29 : decode cX2_heardOf 29 = .ok (.aload_n 1, 1) := by decide +kernel
theorem dX2_heardOf_30 : decode cX2_heardOf 30 = .ok (.invokevirtual 96, 3) := by decide +kernel
theorem dX2_heardOf_42 : decode cX2_heardOf 42 = .ok (.iload_n 2, 1) := by decide +kernel
theorem dX2_heardOf_36 : decode cX2_heardOf 36 = .ok (.iload_n 2, 1) := by decide +kernel
theorem dX2_heardOf_37 : decode cX2_heardOf 37 = .ok (.iconst 2, 1) := by decide +kernel
theorem dX2_heardOf_38 : decode cX2_heardOf 38 = .ok (.idiv, 1) := by decide +kernel
theorem dX2_heardOf_39 : decode cX2_heardOf 39 = .ok (.goto 4, 3) := by decide +kernel
theorem dX2_heardOf_33 : decode cX2_heardOf 33 = .ok (.ifCond .eq 9, 3) := by decide +kernel
theorem dX2_heardOf_43 : decode cX2_heardOf 43 = .ok (.iload_n 3, 1) := by decide +kernel
theorem dX2_heardOf_54 : decode cX2_heardOf 54 = .ok (.iconst 0, 1) := by decide +kernel
theorem dX2_heardOf_47 : decode cX2_heardOf 47 = .ok (.aload_n 1, 1) := by decide +kernel
theorem dX2_heardOf_48 : decode cX2_heardOf 48 = .ok (.getfield 100, 3) := by decide +kernel
theorem dX2_heardOf_51 : decode cX2_heardOf 51 = .ok (.goto 4, 3) := by decide +kernel
theorem dX2_heardOf_44 : decode cX2_heardOf 44 = .ok (.ifCond .eq 10, 3) := by decide +kernel
theorem dX2_heardOf_55 : decode cX2_heardOf 55 = .ok (.invokevirtual 103, 3) := by decide +kernel
theorem dX2_heardOf_58 : decode cX2_heardOf 58 = .ok (.ireturn, 1) := by decide +kernel
theorem bX2_heardOf (x : bo_X) (hx : bo_OK x cX2_heardOf RX2 4 2 47) (σ : bo_M) (o : Nat) (r1 : Nat) (p2 : Int32) (ho : bo_isEv o) (hr1 : bo_isInn r1) : bo_D x 0 [(0, .ref (bo_a x o)), (1, .ref (bo_a x r1)), (2, .int p2)] [] σ (mX2_heardOf σ o r1 p2) (bo_Ri x cX2_heardOf σ false) := by
  unfold mX2_heardOf
  refine bo_aload_n hx dX2_heardOf_0 rfl 0 rfl ?_
  refine gf_X2_34 hx ho dX2_heardOf_1 ?_
  refine bo_seq 26 (fun a => [(0, .ref (bo_a x o)), (1, .ref (bo_a x r1)), (2, .int p2)]) (fun a => [.int a]) (fun a => σ) ?_ (fun a1 => ?_)
  · refine bo_if_gt hx 21 dX2_heardOf_4 (by decide) ?_ ?_
    · refine bo_iconst (v := 1) hx dX2_heardOf_21 (by decide) ?_
      refine bo_goto hx 26 dX2_heardOf_22 (by decide) ?_
      exact bo_arr (fun h => h)
    · refine bo_aload_n hx dX2_heardOf_7 rfl 1 rfl ?_
      refine bo_aload_n hx dX2_heardOf_8 rfl 0 rfl ?_
      refine gf_X2_24 hx ho dX2_heardOf_9 ?_
      refine bo_bipush (v := 96) hx dX2_heardOf_12 (by decide) ?_
      refine bo_iremc hx dX2_heardOf_14 (by decide) ?_
      refine bo_goR (z := true) hx (fun rr hh => bo_runV (As := [.int (bo_irm (σ o 4) 96)]) (S := []) hx dX2_heardOf_15 lk_X2_92 mi_X4_sextonAt hr1.o rfl rfl (kX4_sextonAt (bo_l x) (bo_g x) hx.inj σ r1 (bo_irm (σ o 4) 96) hr1 rr hh) ⟨by decide, by decide⟩ rfl rfl (Nat.le_of_ble_eq_true rfl)) (fun v2 hv2 => ?_)
      refine bo_if_eq hx 25 dX2_heardOf_18 (by decide) ?_ ?_
      · refine bo_iconst (v := 0) hx dX2_heardOf_25 (by decide) ?_
        exact bo_arr (fun h => h)
      · refine bo_iconst (v := 1) hx dX2_heardOf_21 (by decide) ?_
        refine bo_goto hx 26 dX2_heardOf_22 (by decide) ?_
        exact bo_arr (fun h => h)
  · refine bo_istore_n (L' := [(3, .int a1), (0, .ref (bo_a x o)), (1, .ref (bo_a x r1)), (2, .int p2)]) hx dX2_heardOf_26 rfl (by decide) rfl ?_
    refine bo_aload_n hx dX2_heardOf_27 rfl 2 rfl ?_
    refine bo_aload_n hx dX2_heardOf_28 rfl 1 rfl ?_
    refine bo_aload_n hx dX2_heardOf_29 rfl 2 rfl ?_
    refine bo_goR (z := true) hx (fun rr hh => bo_runV (As := [.ref (bo_a x r1)]) (S := [.ref (bo_a x r1)]) hx dX2_heardOf_30 lk_X2_96 mi_X2_isWet ho.o rfl rfl (kX2_isWet (bo_l x) (bo_g x) hx.inj σ o r1 ho hr1 rr hh) ⟨by decide, by decide⟩ rfl rfl (Nat.le_of_ble_eq_true rfl)) (fun v3 hv3 => ?_)
    refine bo_seq 43 (fun a => [(1, .ref (bo_a x r1)), (3, .int a1)]) (fun a => [.int a, .ref (bo_a x r1)]) (fun a => σ) ?_ (fun a4 => ?_)
    · refine bo_if_eq hx 42 dX2_heardOf_33 (by decide) ?_ ?_
      · refine bo_iload_n hx dX2_heardOf_42 rfl 3 rfl ?_
        refine bo_sub (L' := [(1, .ref (bo_a x r1)), (3, .int a1)]) [2, 0] rfl ?_
        exact bo_arr (fun h => h)
      · refine bo_iload_n hx dX2_heardOf_36 rfl 3 rfl ?_
        refine bo_iconst (v := 2) hx dX2_heardOf_37 (by decide) ?_
        refine bo_idivc hx dX2_heardOf_38 (by decide) ?_
        refine bo_goto hx 43 dX2_heardOf_39 (by decide) ?_
        refine bo_sub (L' := [(1, .ref (bo_a x r1)), (3, .int a1)]) [2, 0] rfl ?_
        exact bo_arr (fun h => h)
    · refine bo_iload_n hx dX2_heardOf_43 rfl 1 rfl ?_
      refine bo_seq 55 (fun a => []) (fun a => [.int a, .int a4, .ref (bo_a x r1)]) (fun a => σ) ?_ (fun a5 => ?_)
      · refine bo_if_eq hx 54 dX2_heardOf_44 (by decide) ?_ ?_
        · refine bo_iconst (v := 0) hx dX2_heardOf_54 (by decide) ?_
          refine bo_sub (L' := []) [] rfl ?_
          exact bo_arr (fun h => h)
        · refine bo_aload_n hx dX2_heardOf_47 rfl 0 rfl ?_
          refine gf_X2_100 hx hr1 dX2_heardOf_48 ?_
          refine bo_goto hx 55 dX2_heardOf_51 (by decide) ?_
          refine bo_sub (L' := []) [] rfl ?_
          exact bo_arr (fun h => h)
      · refine bo_goR (z := false) hx (fun rr hh => bo_runV (As := [.int a4, .int a5]) (S := []) hx dX2_heardOf_55 lk_X2_103 mi_X4_echoed hr1.o rfl rfl (kX4_echoed (bo_l x) (bo_g x) hx.inj σ r1 a4 a5 hr1 rr hh) ⟨by decide, by decide⟩ rfl rfl (Nat.le_of_ble_eq_true rfl)) (fun v6 hv6 => ?_)
        exact bo_ret dX2_heardOf_58 (fun h => by cases h)
theorem kX2_heardOf (l : Launch) (g : bo_G) (hi : bo_inj g) (σ : bo_M) (o : Nat) (r1 : Nat) (p2 : Int32) (ho : bo_isEv o) (hr1 : bo_isInn r1) : bo_CR l g yX2_heardOf cX2_heardOf 4 (some .int) 2 47 [.ref (g.2.2 o), .ref (g.2.2 r1), .int p2] σ false (mX2_heardOf σ o r1 p2) :=
  bo_metR rfl (Or.inl ⟨rfl, rfl⟩) (by decide) rfl hi (Nat.le_of_ble_eq_true rfl) (fun x e1 e2 hx => by subst e1; subst e2; exact bX2_heardOf x hx σ o r1 p2 ho hr1)
