/-! inn, the step -/
section STINN
variable {σ σ' s N : bo_M} {T : Nat → Nat} {m a i D G S X g : Nat}
theorem ev_empty (s : bo_M) : ∃ t, mX2_empty s 50 = some t ∧ (∀ x b, ¬ (50 ≤ x ∧ x ≤ 52) → t x b = s x b) ∧ (∀ b, 4 ≤ b → b ≤ 9 → t 50 b = 0) ∧ ∀ b, b < 7 → t 51 b = 0 ∧ t 52 b = 0 := by
  unfold mX2_empty
  simp only [Option.bind_some]
  rw [bq_zero (by omega), Option.bind_some, bq_zero (by omega), Option.bind_some]
  refine ⟨_, rfl, fun x b z => ?_, fun b h1 h2 => ?_, fun b hb => ⟨?_, if_pos ⟨rfl, hb⟩⟩⟩
  · rw [if_neg (by omega), if_neg (by omega), bq_up_o (by omega), bq_up_o (by omega), bq_up_o (by omega), bq_up_o (by omega), bq_up_o (by omega), bq_up_o (by omega)]
  · rw [if_neg (by omega), if_neg (by omega)]
    simp only [bq_up]
    rcases (show b = 4 ∨ b = 5 ∨ b = 6 ∨ b = 7 ∨ b = 8 ∨ b = 9 by omega) with e | e | e | e | e | e <;> subst e <;> simp
  · rw [if_neg (by omega), if_pos ⟨rfl, hb⟩]
theorem now_empty (h7 : D ≤ 7) (h50 : ∀ b, 4 ≤ b → b ≤ 9 → σ 50 b = 0) (h51 : ∀ b, b < 7 → σ 51 b = 0 ∧ σ 52 b = 0) (h144 : ∀ j, j < 107 → σ 144 j = 0) : in_now σ D 0 := by
  have z1 : ∀ j lo hi, j < 107 → lo = 0 → bq_r (σ 144 j) lo hi := fun j lo hi hj h => ⟨0, by rw [h144 j hj]; rfl, by omega, by omega⟩
  refine ⟨⟨fun d hd => ⟨z1 _ _ _ (by omega) rfl, z1 _ _ _ (by omega) rfl, z1 _ _ _ (by omega) rfl⟩, fun d h1 h2 => h144 _ (by omega), ⟨h144 21 (by omega), by omega⟩, h144 26 (by omega), z1 _ _ _ (by omega) rfl, z1 _ _ _ (by omega) rfl, z1 _ _ _ (by omega) rfl, fun k hk => absurd hk (by omega)⟩, ?_, ?_, ?_, ?_, ?_, ?_, fun d hd => ⟨?_, ?_⟩, fun k hk => absurd hk (by omega)⟩
  · rw [h50 4 (by omega) (by omega), h144 21 (by omega)]
  · rw [h50 5 (by omega) (by omega)]
    rw [sp_set_cong (c := fun _ => false) (fun k hk => by rw [h144 k (by omega)]; rfl), sp_set_none (fun _ => rfl)]
    rfl
  · rw [h50 6 (by omega) (by omega), h144 22 (by omega)]
  · rw [h50 7 (by omega) (by omega), h144 23 (by omega)]
  · rw [h50 8 (by omega) (by omega), h144 24 (by omega)]
  · rw [h50 9 (by omega) (by omega), h144 25 (by omega)]
  · rw [(h51 d hd).1, h144 (7 + d) (by omega)]
  · rw [(h51 d hd).2, h144 (14 + d) (by omega)]
theorem st_inn (h : in_all σ) : ∃ r σ1 σ2, mX10_inn σ = some (r, σ1) ∧ mX11_inn σ1 = some (r, σ2) ∧ in_all σ2 := by
  obtain ⟨D, G, S, X, g, hH, hN, ⟨m, m1, m2, m3, m4, m5⟩, r2, r3, r4, r5, r6⟩ := id h
  obtain ⟨T, hT⟩ : ∃ T : Nat → Nat, T = fun k => (σ 2 k).toNatClampNeg := ⟨_, rfl⟩
  have hTk : ∀ k, k < m → σ 2 k = nI (T k) ∧ σ 145 k = nI (T k) ∧ T k ≤ 255 := by
    intro k hk
    obtain ⟨e1, v, hv, -, hv2⟩ := m4 k hk
    have : T k = v := by rw [hT]; show (σ 2 k).toNatClampNeg = v; rw [hv, nI_clamp (by omega)]
    rw [this, ← e1]
    exact ⟨hv, hv, hv2⟩
  have hx : tx σ T m := ⟨m1, m2, fun k hk => ⟨(hTk k hk).1, (hTk k hk).2.2⟩⟩
  obtain ⟨i, hi⟩ : ∃ i, i = bo_inn (σ 0 10) := ⟨_, rfl⟩
  obtain ⟨j, hj⟩ : ∃ j, j = bo_inn (σ 0 9) := ⟨_, rfl⟩
  have hij : (i = 42 ∧ j = 34) ∨ (i = 34 ∧ j = 42) := by
    rcases hH.2.2 with ⟨e1, e2⟩ | ⟨e1, e2⟩
    · left; rw [hi, hj, e1, e2]; decide
    · right; rw [hi, hj, e1, e2]; decide
  have hi2 : i = 34 ∨ i = 42 := by omega
  have hread := cl_readall hi2 hx
  unfold mX10_inn
  rw [← hi]
  -- the reference's reading, of any memory with the same text
  have hrf : ∀ s1 : bo_M, ty s1 T m → ∃ s7, bo_up (bo_up (bo_up (bo_up (bo_up (bo_up (bo_up s1 135 20 (-1)) 135 21 0) 135 24 0) 135 26 0) 135 30 0) 135 33 0) 135 36 0 = s7 ∧ frQ s1 s7 ∧ rf_fin T m s7 (mX11_inn_L37 bo_fuel 0 s7) (ps_read T m 240 (ps_sk T m 0, nO, 0, 0, 0, 0)) := by
    intro s1 hy
    obtain ⟨s7, hs7⟩ : ∃ s7, s7 = bo_up (bo_up (bo_up (bo_up (bo_up (bo_up (bo_up s1 135 20 (-1)) 135 21 0) 135 24 0) 135 26 0) 135 30 0) 135 33 0) 135 36 0 := ⟨_, rfl⟩
    have c : ∀ b, s7 135 b = if b = 36 then 0 else if b = 33 then 0 else if b = 30 then 0 else if b = 26 then 0 else if b = 24 then 0 else if b = 21 then 0 else if b = 20 then -1 else s1 135 b := fun b => by
      rw [hs7]
      simp only [bq_up]
      simp
    have f7 : frQ s1 s7 := fun x b z1 z2 => by
      rw [hs7, bq_up, if_neg (by omega), bq_up, if_neg (by omega), bq_up, if_neg (by omega), bq_up, if_neg (by omega), bq_up, if_neg (by omega), bq_up, if_neg (by omega), bq_up, if_neg (by omega)]
    refine ⟨s7, hs7.symm, f7, ?_⟩
    refine rf_loop 240 0 bo_fuel s7 (0, nO, 0, 0, 0, 0) (by omega) (bq_fuel (by omega)) (Nat.zero_le _) ⟨hy.Q f7, ?_, Nat.zero_le _, ?_, ?_, fun _ => ⟨rfl, rfl, rfl⟩, fun z => absurd (by decide) z, ?_, ?_, ?_, ?_, fun d hd => absurd hd (Nat.not_lt_zero _), fun d hd => absurd hd (Nat.not_lt_zero _), fun d hd => absurd hd (Nat.not_lt_zero _), fun d hd => absurd hd (Nat.not_lt_zero _)⟩ nO_env
    · rw [c]; rfl
    · rw [c]; rfl
    · rw [c]; rfl
    · rw [c]; rfl
    · rw [c]; rfl
    · rw [c]; rfl
    · rw [c]; rfl
  cases e : ps_read T m 240 (ps_sk T m 0, nO, 0, 0, 0, 0) with
  | error q =>
    obtain ⟨c, p⟩ := q
    rw [e] at hread
    obtain ⟨t, w1, w2, w3, w4, w5⟩ := hread
    obtain ⟨s1, hs1⟩ : ∃ s1, s1 = bo_up t 1 4 0 := ⟨_, rfl⟩
    have f1 : ∀ x b, ¬ (x = 1) → ¬ (i ≤ x ∧ x ≤ i + 7) → s1 x b = σ x b := fun x b z1 z2 => by rw [hs1, bq_up_o z1, w2 x b (by omega) z2]
    obtain ⟨s7, y1, y2, y3⟩ := hrf s1 ⟨m1, by rw [f1 135 19 (by omega) (by omega)]; exact m3, fun k hk => by rw [f1 145 k (by omega) (by omega)]; exact ⟨(hTk k hk).2.1, (hTk k hk).2.2⟩⟩
    rw [e] at y3
    obtain ⟨t7, z1, z2, z3, z4, z5⟩ := y3
    obtain ⟨s2, hs2⟩ : ∃ s2, s2 = bo_up t7 135 19 0 := ⟨_, rfl⟩
    have f2 : ∀ x b, ¬ (x = 135 ∧ ((19 ≤ b ∧ b ≤ 24) ∨ b = 26 ∨ b = 30 ∨ b = 33 ∨ b = 36)) → ¬ (146 ≤ x ∧ x ≤ 154) → s2 x b = s1 x b := fun x b q1 q2 => by rw [hs2, bq_up, if_neg (by omega), z2 x b (by omega) q2, y2 x b (by omega) q2]
    have ro : ∀ x b, ¬ (x = 1) → ¬ (i ≤ x ∧ x ≤ i + 7) → ¬ (x = 135 ∧ ((19 ≤ b ∧ b ≤ 24) ∨ b = 26 ∨ b = 30 ∨ b = 33 ∨ b = 36)) → ¬ (146 ≤ x ∧ x ≤ 154) → s2 x b = σ x b := fun x b q1 q2 q3 q4 => by rw [f2 x b q3 q4, f1 x b q1 q2]
    refine ⟨-10 - nI c, s1, s2, ?_, ?_, D, G, S, X, g, ⟨?_, ?_, ?_⟩, hN.fr (fun a b z => ro a b (by omega) (by omega) (by omega) (by omega)), ⟨0, by omega, ?_, ?_, fun k hk => absurd hk (Nat.not_lt_zero _), ?_⟩, r2.fr (fun a b z => ro a b (by omega) (by omega) (by omega) (by omega)), r3.fr (fun a b z => ro a b (by omega) (by omega) (by omega) (by omega)), r4.fr (fun a b z => ro a b (by omega) (by omega) (by omega) (by omega)), r5.fr (fun a b z => ro a b (by omega) (by omega) (by omega) (by omega)), r6.fr (fun a b z => ro a b (by omega) (by omega) (by omega) (by omega))⟩
    · rw [w1, Option.bind_some, Option.bind_some]
      dsimp only
      rw [if_neg (nz w4 w5), hs1]
    · unfold mX11_inn
      simp only [Option.bind_some]
      rw [y1, z1, Option.bind_some]
      dsimp only
      rw [if_neg (nz' w4 w5), hs2]
    · exact hH.1.to (sp_ag.fr (fun a b z => ro a b (by omega) (by omega) (by omega) (by omega)))
    · rw [ro 0 9 (by omega) (by omega) (by omega) (by omega), ← hj]
      have := hH.2.1
      rw [← hj] at this
      exact (this.ag (sp_ag.fr (fun a b z => ro a b (by omega) (by omega) (by omega) (by omega)))).to (fun a q1 q2 => funext fun b => ro a b (by omega) (by omega) (by omega) (by omega))
    · rw [ro 0 9 (by omega) (by omega) (by omega) (by omega), ro 0 10 (by omega) (by omega) (by omega) (by omega)]; exact hH.2.2
    · rw [f2 1 4 (by omega) (by omega), hs1, bq_up_s]; rfl
    · rw [hs2, bq_up_s]; rfl
    · rw [f2 1 5 (by omega) (by omega), hs1, bq_up, if_neg (by omega), w3, hs2, bq_up, if_neg (by omega), z3]
  | ok y =>
    obtain ⟨a', N', D', G', S', X'⟩ := y
    rw [e] at hread
    obtain ⟨t, w1, w2, w3, w4, w5⟩ := hread
    dsimp only at w4
    have hE' : sp_env N' D' G' S' X' := w5
    have d7 := hE'.nD.2
    obtain ⟨s4, hs4⟩ : ∃ s4, s4 = bo_up (bo_up (bo_up t 1 4 0) 0 9 (σ 0 10)) 0 10 (σ 0 9) := ⟨_, rfl⟩
    obtain ⟨s5, v1, v2, v3, v4⟩ := ev_empty s4
    obtain ⟨s1, hs1⟩ : ∃ s1, s1 = bo_up (bo_up (bo_up (bo_up (bo_up s5 3 1 0) 5 2 0) 11 2 0) 24 4 0) 29 2 0 := ⟨_, rfl⟩
    have g4 : ∀ x b, ¬ (x = 1) → ¬ (i ≤ x ∧ x ≤ i + 7) → ¬ (x = 0 ∧ (b = 9 ∨ b = 10)) → s4 x b = σ x b := fun x b z1 z2 z3 => by rw [hs4, bq_up, if_neg (by omega), bq_up, if_neg (by omega), bq_up_o z1, w2 x b (by omega) z2]
    have g1 : ∀ x b, ¬ (x = 3 ∧ b = 1) → ¬ (x = 5 ∧ b = 2) → ¬ (x = 11 ∧ b = 2) → ¬ (x = 24 ∧ b = 4) → ¬ (x = 29 ∧ b = 2) → s1 x b = s5 x b := fun x b z1 z2 z3 z4 z5 => by rw [hs1, bq_up, if_neg z5, bq_up, if_neg z4, bq_up, if_neg z3, bq_up, if_neg z2, bq_up, if_neg z1]
    have f1 : ∀ x b, ¬ (x = 1) → ¬ (i ≤ x ∧ x ≤ i + 7) → ¬ (x = 0 ∧ (b = 9 ∨ b = 10)) → ¬ (50 ≤ x ∧ x ≤ 52) → ¬ (x = 3 ∧ b = 1) → ¬ (x = 5 ∧ b = 2) → ¬ (x = 11 ∧ b = 2) → ¬ (x = 24 ∧ b = 4) → ¬ (x = 29 ∧ b = 2) → s1 x b = σ x b := fun x b z1 z2 z3 z4 z5 z6 z7 z8 z9 => by rw [g1 x b z5 z6 z7 z8 z9, v2 x b z4, g4 x b z1 z2 z3]
    have n9 : s1 0 9 = σ 0 10 := by rw [g1 0 9 (by omega) (by omega) (by omega) (by omega) (by omega), v2 0 9 (by omega), hs4, bq_up, if_neg (by omega), bq_up_s]
    have n10 : s1 0 10 = σ 0 9 := by rw [g1 0 10 (by omega) (by omega) (by omega) (by omega) (by omega), v2 0 10 (by omega), hs4, bq_up_s]
    have gi : ∀ x b, i ≤ x → x ≤ i + 7 → s1 x b = t x b := fun x b z1 z2 => by rw [g1 x b (by omega) (by omega) (by omega) (by omega) (by omega), v2 x b (by omega), hs4, bq_up, if_neg (by omega), bq_up, if_neg (by omega), bq_up_o (by omega)]
    obtain ⟨s7, y1, y2, y3⟩ := hrf s1 ⟨m1, by rw [f1 135 19 (by omega) (by omega) (by omega) (by omega) (by omega) (by omega) (by omega) (by omega) (by omega)]; exact m3, fun k hk => by rw [f1 145 k (by omega) (by omega) (by omega) (by omega) (by omega) (by omega) (by omega) (by omega) (by omega)]; exact ⟨(hTk k hk).2.1, (hTk k hk).2.2⟩⟩
    rw [e] at y3
    obtain ⟨t7, z1, z2, z3, z4⟩ := y3
    obtain ⟨s11, hs11⟩ : ∃ s11, s11 = bo_up t7 135 19 0 := ⟨_, rfl⟩
    have hrh : rh s11 (a', N', D', G', S', X') := by
      unfold rh
      rw [hs11]
      simp only [bq_up_o (show (146 : Nat) ≠ 135 by decide), bq_up_o (show (147 : Nat) ≠ 135 by decide), bq_up_o (show (148 : Nat) ≠ 135 by decide), bq_up_o (show (149 : Nat) ≠ 135 by decide), bq_up_o (show (150 : Nat) ≠ 135 by decide), bq_up_o (show (151 : Nat) ≠ 135 by decide), bq_up_o (show (152 : Nat) ≠ 135 by decide), bq_up_o (show (153 : Nat) ≠ 135 by decide), bq_up_o (show (154 : Nat) ≠ 135 by decide)]
      rw [show ∀ b, b ≠ 19 → bo_up t7 135 19 0 135 b = t7 135 b from fun b hb => by rw [bq_up, if_neg (by omega)]] <;> try decide
      rw [show bo_up t7 135 19 0 135 26 = t7 135 26 from by rw [bq_up, if_neg (by omega)], show bo_up t7 135 19 0 135 30 = t7 135 30 from by rw [bq_up, if_neg (by omega)], show bo_up t7 135 19 0 135 33 = t7 135 33 from by rw [bq_up, if_neg (by omega)], show bo_up t7 135 19 0 135 36 = t7 135 36 from by rw [bq_up, if_neg (by omega)]]
      exact z4
    obtain ⟨t2, u1, u2, u3, u4, u5, u6⟩ := rf_take hrh w5
    dsimp only at u4 u5 u6
    obtain ⟨s2, hs2⟩ : ∃ s2, s2 = bo_up (bo_up (bo_up (bo_up (bo_up t2 135 44 0) 135 49 0) 135 38 0) 167 0 (0 &&& 1)) 167 1 (0 &&& 1) := ⟨_, rfl⟩
    have k2 : ∀ x b, ¬ (x = 167 ∧ (b = 0 ∨ b = 1)) → ¬ (x = 135 ∧ (b = 38 ∨ b = 44 ∨ b = 49)) → s2 x b = t2 x b := fun x b q1 q2 => by rw [hs2, bq_up, if_neg (by omega), bq_up, if_neg (by omega), bq_up, if_neg (by omega), bq_up, if_neg (by omega), bq_up, if_neg (by omega)]
    have c2 : ∀ x b, x < 135 → s2 x b = s1 x b := fun x b q => by rw [k2 x b (by omega) (by omega), u2 x b (by omega) (by omega), hs11, bq_up_o (by omega), z2 x b (by omega) (by omega), y2 x b (by omega) (by omega)]
    have ro : ∀ x b, ¬ (x = 1) → ¬ (i ≤ x ∧ x ≤ i + 7) → ¬ (x = 0 ∧ (b = 9 ∨ b = 10)) → ¬ (50 ≤ x ∧ x ≤ 52) → ¬ (x = 3 ∧ b = 1) → ¬ (x = 5 ∧ b = 2) → ¬ (x = 11 ∧ b = 2) → ¬ (x = 24 ∧ b = 4) → ¬ (x = 29 ∧ b = 2) → ¬ (x = 167) → ¬ (x = 135 ∧ ¬ (b = 17)) → ¬ (136 ≤ x ∧ x ≤ 154) → s2 x b = σ x b := fun x b q1 q2 q3 q4 q5 q6 q7 q8 q9 q10 q11 q12 => by
      rw [k2 x b (by omega) (by omega), u2 x b (by omega) (by omega), hs11, bq_up, if_neg (by omega), z2 x b (by omega) (by omega), y2 x b (by omega) (by omega), f1 x b q1 q2 q3 q4 q5 q6 q7 q8 q9]
    have ag2 : sp_ag s2 t2 := sp_ag.fr (fun a b z => k2 a b (by omega) (by omega))
    refine ⟨nI D', s1, s2, ?_, ?_, D', G', S', X', 0, ⟨u5.to ag2, ?_, ?_⟩, now_empty d7 ?_ ?_ ?_, ⟨0, by omega, ?_, ?_, fun k hk => absurd hk (Nat.not_lt_zero _), ?_⟩, r2.fr (fun a b z => ro a b (by omega) (by omega) (by omega) (by omega) (by omega) (by omega) (by omega) (by omega) (by omega) (by omega) (by omega) (by omega)), ?_, fun k hk => ?_, ⟨0, by omega, ?_, ?_, fun k hk => absurd hk (Nat.not_lt_zero _)⟩, ⟨0, by omega, ?_, ?_, fun k hk => absurd hk (Nat.not_lt_zero _)⟩⟩
    · rw [w1, Option.bind_some, Option.bind_some]
      dsimp only
      rw [if_pos rfl]
      simp only [Option.bind_some]
      rw [show bo_up t 1 4 0 0 10 = σ 0 10 from by rw [bq_up_o (by decide), w2 0 10 (by omega) (by omega)], show bo_up t 1 4 0 0 9 = σ 0 9 from by rw [bq_up_o (by decide), w2 0 9 (by omega) (by omega)], ← hs4, v1, Option.bind_some, ← hs1, n9, ← hi, gi i 11 (by omega) (by omega), w4.nD]
    · unfold mX11_inn
      simp only [Option.bind_some]
      rw [y1, z1, Option.bind_some]
      dsimp only
      rw [if_pos (Int32.le_refl _), ← hs11, u1, Option.bind_some, show (0 : Int32) = nI 0 from rfl, bq_st (by omega) (by decide), Option.bind_some, show (1 : Int32) = nI 1 from rfl, bq_st (by omega) (by decide), Option.bind_some]
      have hs2' : s2 = bo_up (bo_up (bo_up (bo_up (bo_up t2 135 44 (nI 0)) 135 49 (nI 0)) 135 38 (nI 0)) 167 0 (nI 0 &&& nI 1)) 167 1 (nI 0 &&& nI 1) := hs2
      rw [← hs2', k2 135 4 (by omega) (by omega), u4]
    · rw [c2 0 9 (by omega), n9, ← hi]
      exact (u6 s2 i (w4.to (fun a z1 z2 => funext fun b => by rw [c2 a b (by omega), gi a b z1 z2]))).ag ag2
    · rw [c2 0 9 (by omega), n9, c2 0 10 (by omega), n10]
      rcases hH.2.2 with ⟨e1, e2⟩ | ⟨e1, e2⟩
      · exact Or.inr ⟨e2, e1⟩
      · exact Or.inl ⟨e2, e1⟩
    · intro b h1 h2
      rw [c2 50 b (by omega), g1 50 b (by omega) (by omega) (by omega) (by omega) (by omega)]
      exact v3 b h1 h2
    · intro b h1
      rw [c2 51 b (by omega), g1 51 b (by omega) (by omega) (by omega) (by omega) (by omega), c2 52 b (by omega), g1 52 b (by omega) (by omega) (by omega) (by omega) (by omega)]
      exact v4 b h1
    · intro j hj
      rw [k2 144 j (by omega) (by omega)]
      exact u3 j hj
    · rw [c2 1 4 (by omega), g1 1 4 (by omega) (by omega) (by omega) (by omega) (by omega), v2 1 4 (by omega), hs4, bq_up_o (by decide), bq_up_o (by decide), bq_up_s]; rfl
    · rw [k2 135 19 (by omega) (by omega), u2 135 19 (by omega) (by omega), hs11, bq_up_s]; rfl
    · rw [c2 1 5 (by omega), g1 1 5 (by omega) (by omega) (by omega) (by omega) (by omega), v2 1 5 (by omega), hs4, bq_up_o (by decide), bq_up_o (by decide), bq_up, if_neg (by omega), w3, k2 135 20 (by omega) (by omega), u2 135 20 (by omega) (by omega), hs11, bq_up, if_neg (by omega), z3]
    · obtain ⟨u, π, p1, p2, p3, p4, p5, p6⟩ := r3
      refine ⟨0, π, by omega, ?_, ?_, fun k hk => ?_, p5, fun k hk => absurd hk (Nat.not_lt_zero _)⟩
      · rw [c2 3 1 (by omega), hs1, bq_up, if_neg (by omega), bq_up, if_neg (by omega), bq_up, if_neg (by omega), bq_up, if_neg (by omega), bq_up_s]; rfl
      · rw [hs2, bq_up, if_neg (by omega), bq_up, if_neg (by omega), bq_up_s]; rfl
      · rw [ro 4 k (by omega) (by omega) (by omega) (by omega) (by omega) (by omega) (by omega) (by omega) (by omega) (by omega) (by omega) (by omega)]
        exact p4 k hk
    · have e167 : s2 167 k = 0 := by
        rw [hs2]
        rcases (show k = 0 ∨ k = 1 by omega) with e | e <;> subst e
        · rw [bq_up, if_neg (by omega), bq_up_s]; rfl
        · rw [bq_up_s]; rfl
      rw [e167]
      refine ⟨⟨0, rfl, by omega, by omega⟩, ?_, fun z => absurd z (by decide)⟩
      rcases (show k = 0 ∨ k = 1 by omega) with e | e <;> subst e
      · rw [c2 _ 2 (by omega), hs1, bq_up, if_neg (by omega), bq_up, if_neg (by omega), bq_up, if_neg (by omega), bq_up_s]; rfl
      · rw [c2 _ 2 (by omega), hs1, bq_up, if_neg (by omega), bq_up, if_neg (by omega), bq_up_s]; rfl
    · rw [c2 24 4 (by omega), hs1, bq_up, if_neg (by omega), bq_up_s]; rfl
    · rw [hs2, bq_up, if_neg (by omega), bq_up, if_neg (by omega), bq_up, if_neg (by omega), bq_up, if_neg (by omega), bq_up_s]; rfl
    · rw [c2 29 2 (by omega), hs1, bq_up_s]; rfl
    · rw [hs2, bq_up, if_neg (by omega), bq_up, if_neg (by omega), bq_up, if_neg (by omega), bq_up_s]; rfl
end STINN
