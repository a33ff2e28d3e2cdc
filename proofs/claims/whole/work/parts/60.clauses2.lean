/-! bell, goers, signals, sextons -/
section CLAUSES2
variable {σ σ' s N : bo_M} {T : Nat → Nat} {m a i D G S X : Nat}
/-! goers -/
noncomputable def kG2 (i : Nat) : bo_M → Option bo_M := kW (fun σ v s => mX8_put s 6 (i + 5) (σ i 13) v) 0 40 fun _ => kE fun s => some (bo_up s i 13 (s i 13 + 1))
noncomputable def kG1 (i : Nat) : bo_M → Option bo_M := kW (fun σ v s => mX8_put s 6 (i + 4) (σ i 13) v) 0 95 fun _ => kG2 i
theorem kG2_F (hi : i = 34 ∨ i = 42) : Fa i S T m (kG2 i) := Fa.num hi (fun _ _ => kO_put (by omega) (by decide)) (fun _ => Fa.end_ hi (kD_end i 13))
theorem kG1_F (hi : i = 34 ∨ i = 42) : Fa i S T m (kG1 i) := Fa.num hi (fun _ _ => kO_put (by omega) (by decide)) (fun _ => kG2_F hi)
theorem kG_is (σ : bo_M) (i : Nat) : mX7_readGoer σ i = ((if σ i 13 < 6 then some (0 : Int32) else some 1).bind fun a1 => (mX7_startClause σ a1).bind (kG1 i)) := rfl
/-- after the start -/
theorem cr_start {y : PS} (hc : cr σ i T m y) (hi : i = 34 ∨ i = 42) : ∃ s0, bo_up σ 1 1 (nI (y.1 + 1)) = s0 ∧ fr1 σ s0 ∧ tx s0 T m ∧ s0 1 1 = nI (y.1 + 1) ∧ y.1 + 1 ≤ 1000 ∧ s0 1 3 = 0 ∧ s0 1 5 = -1 ∧ ∀ b, s0 i b = σ i b := by
  obtain ⟨h1, h2, h3, h4, h5, h6, h8⟩ := hc
  have hm := h1.1
  exact ⟨_, rfl, fr1.up (by omega), h1.fr (fr1.up (by omega)), bq_up_s, by omega, by rw [bq_up, if_neg (by omega)]; exact h4, by rw [bq_up, if_neg (by omega)]; exact h5, fun b => bq_up_o (show i ≠ 1 by omega) ▸ rfl⟩
theorem cl_goer (hi : i = 34 ∨ i = 42) {y : PS} (hc : cr σ i T m y) (hE : ps_env y) : cl_res i T m σ y.1 (mX7_readGoer σ i) (ps_goer T m y) := by
  rw [kG_is]
  obtain ⟨a, N, D, G, S, X⟩ := y
  unfold ps_goer
  have hc' := hc
  obtain ⟨h1, h2, h3, h4, h5, h6, h8⟩ := hc
  dsimp only at h1 h2 h3 h4 h5 h6 h8 ⊢
  have hE' : sp_env N D G S X := hE
  have hm := h1.1
  rw [h6.nG]
  by_cases c : G < 6
  · rw [if_pos c, if_pos (show nI G < 6 from nI_lt (b := 6) c (by decide)), Option.bind_some, cl_start0 hi hc', Option.bind_some]
    obtain ⟨s0, e0, f0, t0, g1, g2, g3, g5, o0⟩ := cr_start hc' hi
    rw [e0]
    dsimp only at g1 g2
    refine cl_num_step (l := 0) (u := 95) (S := S) rfl rfl (by omega) (by omega) hi (fun _ _ => kO_put (by omega) (by decide)) (fun _ => kG2_F hi) f0.H t0 g1 (by omega) g3 (by rw [o0]; exact h6.nS) (fun v1 a1 t1 x2 x3 x4 x5 x6 x7 _ x9 x10 => ?_)
    rw [o0 13, h6.nG, bq_put c (by decide), Option.bind_some]
    obtain ⟨s1, hs1⟩ : ∃ s1, s1 = bo_up t1 (i + 4) G (nI v1) := ⟨_, rfl⟩
    rw [← hs1]
    have f1 : frH i σ s1 := f0.H.tr (x2.H.tr (by rw [hs1]; exact fun x b _ z => bq_up_o (show x ≠ i + 4 by omega) ▸ rfl))
    have r1 : ∀ b, s1 1 b = t1 1 b := fun b => by rw [hs1, bq_up_o (by omega)]
    have o1 : ∀ b, s1 i b = σ i b := fun b => by rw [hs1, bq_up_o (by omega), x2 i b (by omega), o0]
    refine cl_num_step (l := 0) (u := 40) (S := S) rfl rfl (by omega) (by omega) hi (fun _ _ => kO_put (by omega) (by decide)) (fun _ => Fa.end_ hi (kD_end i 13)) f1 (h1.frH f1 hi) (by rw [r1]; exact x5) (by omega) (by rw [r1]; exact x9) (by rw [o1]; exact h6.nS) (fun v2 a2 t2 y2 y3 y4 y5 y6 y7 _ y9 y10 => ?_)
    rw [o1 13, h6.nG, bq_put c (by decide), Option.bind_some]
    obtain ⟨s2, hs2⟩ : ∃ s2, s2 = bo_up t2 (i + 5) G (nI v2) := ⟨_, rfl⟩
    rw [← hs2]
    have f2 : frH i σ s2 := f1.tr (y2.H.tr (by rw [hs2]; exact fun x b _ z => bq_up_o (show x ≠ i + 5 by omega) ▸ rfl))
    have r2 : ∀ b, s2 1 b = t2 1 b := fun b => by rw [hs2, bq_up_o (by omega)]
    have o2 : ∀ b, s2 i b = σ i b := fun b => by rw [hs2, bq_up_o (by omega), y2 i b (by omega), o1]
    refine cl_end_step (S := S) hi (kD_end i 13) f2 (h1.frH f2 hi) (by rw [r2]; exact y5) (by omega) (by rw [r2]; exact y9) (by rw [o2]; exact h6.nS) (fun a3 t3 w2 w3 w4 w5 w6 w7 => ?_)
    have o3 : ∀ b, t3 i b = σ i b := fun b => by rw [w2 i b (by omega), o2]
    have rr : ∀ x b, i < x → x ≤ i + 7 → t3 x b = if x = i + 4 ∧ b = G then nI v1 else if x = i + 5 ∧ b = G then nI v2 else σ x b := fun x b q1 q2 => by
      rw [w2 x b (by omega), hs2, bq_up, y2 x b (by omega), hs1, bq_up, x2 x b (by omega), f0 x b (by omega)]
      by_cases k1 : x = i + 4 ∧ b = G
      · rw [if_neg (by omega), if_pos k1, if_pos k1]
      · rw [if_neg k1, if_neg k1]
    have ff : frH i σ (bo_up t3 i 13 (t3 i 13 + 1)) := f2.tr (w2.H.tr (fun x b _ q => by rw [bq_up_o (by omega)]))
    refine ⟨_, rfl, ff, ⟨h1.frH ff hi, by rw [bq_up_o (by omega)]; exact w3, w4, by rw [bq_up_o (by omega)]; exact w6, ?_, ?_, ?_⟩, ?_, show a < a3 by omega⟩
    · rw [bq_up_o (by omega), w7, r2, y10, r1, x10, g5]
    · refine ⟨?_, ?_, ?_, ?_, ?_, ?_, ?_, fun d hd => ?_, fun d hd => ?_, fun d hd => ?_, fun q hq => ?_⟩
      · rw [bq_up, if_neg (by omega), o3]; exact h6.open_
      · rw [bq_up, if_neg (by omega), o3]; exact h6.echo
      · rw [bq_up, if_neg (by omega), o3]; exact h6.takes
      · rw [bq_up, if_neg (by omega), o3]; exact h6.wet
      · rw [bq_up, if_neg (by omega), o3]; exact h6.nD
      · rw [bq_up_s, o3, h6.nG, nI_1]
      · rw [bq_up, if_neg (by omega), o3]; exact h6.nS
      · rw [bq_up_o (by omega), bq_up_o (by omega), bq_up_o (by omega), rr _ _ (by omega) (by omega), rr _ _ (by omega) (by omega), rr _ _ (by omega) (by omega)]
        simp only [bq_up]
        have h' := h6.dr d hd
        simp [h']
      · rw [bq_up_o (by omega), bq_up_o (by omega), rr _ _ (by omega) (by omega), rr _ _ (by omega) (by omega)]
        simp only [bq_up]
        by_cases k : d = G
        · subst k
          simp
        · have h' := h6.go d (show d < G by dsimp only at hd; omega)
          simp [k, h']
      · rw [bq_up_o (by omega), rr _ _ (by omega) (by omega)]
        simp only [bq_up]
        have h' := h6.si d hd
        simp [h']
      · rw [bq_up_o (by omega), rr _ _ (by omega) (by omega)]
        have h' := h6.bl q hq
        rw [sp_bl_cong (N := N) (M := bo_up (bo_up (bo_up N 141 G (nI v1)) 142 G (nI v2)) 135 11 (nI (G + 1))) (funext fun b => by simp [bq_up]) (funext fun b => by simp [bq_up]), ← h']
        simp
    · rw [bq_up, if_neg (by omega), o3]; exact h8
    · show sp_env (bo_up (bo_up (bo_up N 141 G (nI v1)) 142 G (nI v2)) 135 11 (nI (G + 1))) D (G + 1) S X
      refine ⟨⟨?_, hE'.nD.2⟩, ⟨bq_up_s, c⟩, ⟨?_, hE'.nS.2⟩, ⟨?_, hE'.nX.2⟩, ?_, ?_, ?_, fun d hd => ?_, fun d hd => ?_, fun d hd => ?_, fun d hd => ?_⟩
      · simp only [bq_up]; simpa using hE'.nD.1
      · simp only [bq_up]; simpa using hE'.nS.1
      · simp only [bq_up]; simpa using hE'.nX.1
      · simp only [bq_up]; simpa using hE'.echo
      · simp only [bq_up]; simpa using hE'.takes
      · simp only [bq_up]; simpa using hE'.wet
      · simp only [bq_up]; simpa using hE'.dr d hd
      · simp only [bq_up]; simpa using hE'.ti d hd
      · simp only [bq_up]
        by_cases k : d = G
        · subst k
          simp
          exact ⟨⟨v1, rfl, x3, x4⟩, ⟨v2, rfl, y3, y4⟩⟩
        · have h' := hE'.go d (show d < G by omega)
          simpa [k] using h'
      · simp only [bq_up]; simpa using hE'.si d hd
  · rw [if_neg c, if_neg (show ¬ nI G < 6 from nI_nlt (b := 6) (by omega) (by have := hE'.nG.2; omega)), Option.bind_some]
    exact cl_full3 hi hc' (kG1_F hi) bq_10
/-! the law of the bell -/
noncomputable def kB3 (i : Nat) : bo_M → Option bo_M := kW (fun _ v s => some (bo_up s i 10 v)) 0 127 fun _ => kE fun s => some s
noncomputable def kB2 (i : Nat) : bo_M → Option bo_M := kW (fun _ v s => some (bo_up s i 9 v)) 0 9 fun _ => kB3 i
noncomputable def kB1 (i : Nat) : bo_M → Option bo_M := kW (fun _ v s => some (bo_up s i 8 v)) 0 1 fun _ => kB2 i
theorem kB_end : ∀ s : bo_M, ¬ s 1 3 = 0 → s i 14 = nI S → ∃ s', some s = some s' ∧ frI i s s' := fun s _ _ => ⟨s, rfl, fun _ _ _ => rfl⟩
theorem kB3_F (hi : i = 34 ∨ i = 42) : Fa i S T m (kB3 i) := Fa.num hi (fun _ _ => kO_up (by decide)) (fun _ => Fa.end_ hi kB_end)
theorem kB2_F (hi : i = 34 ∨ i = 42) : Fa i S T m (kB2 i) := Fa.num hi (fun _ _ => kO_up (by decide)) (fun _ => kB3_F hi)
theorem kB1_F (hi : i = 34 ∨ i = 42) : Fa i S T m (kB1 i) := Fa.num hi (fun _ _ => kO_up (by decide)) (fun _ => kB2_F hi)
theorem kB_is (σ : bo_M) (i : Nat) : mX7_readBell σ i = ((mX7_startClause σ (σ i 7 &&& 1)).bind fun s => kB1 i (bo_up s i 7 1)) := by
  unfold mX7_readBell kB1 kB2 kB3 kW kE
  simp only [Option.bind_some]
theorem kB0_F (hi : i = 34 ∨ i = 42) : Fa i S T m (fun s => kB1 i (bo_up s i 7 1)) := by
  intro σ a hT h ha hf h14
  have f : frH i σ (bo_up σ i 7 1) := fun x b _ z => by rw [bq_up_o (by omega)]
  obtain ⟨σ', g1, g2, g3, g4, g5⟩ := kB1_F hi (S := S) (bo_up σ i 7 1) a (hT.frH f hi) (by rw [bq_up_o (by omega)]; exact h) ha (by rw [bq_up_o (by omega)]; exact hf) (by rw [bq_up, if_neg (by omega)]; exact h14)
  exact ⟨σ', g1, f.tr g2, by rw [g3, bq_up_o (by omega)], by rw [g4, bq_up_o (by omega)], g5⟩
theorem cl_bell (hi : i = 34 ∨ i = 42) {y : PS} (hc : cr σ i T m y) (hE : ps_env y) : cl_res i T m σ y.1 (mX7_readBell σ i) (ps_bell T m y) := by
  rw [kB_is]
  obtain ⟨a, N, D, G, S, X⟩ := y
  unfold ps_bell
  have hc' := hc
  obtain ⟨h1, h2, h3, h4, h5, h6, h8⟩ := hc
  dsimp only at h1 h2 h3 h4 h5 h6 h8 ⊢
  have hE' : sp_env N D G S X := hE
  have hm := h1.1
  rw [h6.open_]
  by_cases c : N 135 0 &&& 1 = 0
  · rw [if_pos c, c, cl_start0 hi hc', Option.bind_some]
    obtain ⟨s0, e0, f0, t0, g1, g2, g3, g5, o0⟩ := cr_start hc' hi
    rw [e0]
    dsimp only at g1 g2
    obtain ⟨u0, hu0⟩ : ∃ u0, u0 = bo_up s0 i 7 1 := ⟨_, rfl⟩
    rw [← hu0]
    have fu : frH i σ u0 := f0.H.tr (by rw [hu0]; exact fun x b _ z => by rw [bq_up_o (by omega)])
    have ru : ∀ b, u0 1 b = s0 1 b := fun b => by rw [hu0, bq_up_o (by omega)]
    have u14 : u0 i 14 = nI S := by rw [hu0, bq_up, if_neg (by omega), o0]; exact h6.nS
    refine cl_num_step (l := 0) (u := 1) (S := S) rfl rfl (by omega) (by omega) hi (fun _ _ => kO_up (by decide)) (fun _ => kB2_F hi) fu (h1.frH fu hi) (by rw [ru]; exact g1) (by omega) (by rw [ru]; exact g3) u14 (fun v1 a1 t1 x2 x3 x4 x5 x6 x7 _ x9 x10 => ?_)
    rw [Option.bind_some]
    obtain ⟨s1, hs1⟩ : ∃ s1, s1 = bo_up t1 i 8 (nI v1) := ⟨_, rfl⟩
    rw [← hs1]
    have f1 : frH i σ s1 := fu.tr (x2.H.tr (by rw [hs1]; exact fun x b _ z => by rw [bq_up_o (by omega)]))
    have r1 : ∀ b, s1 1 b = t1 1 b := fun b => by rw [hs1, bq_up_o (by omega)]
    have s14 : s1 i 14 = nI S := by rw [hs1, bq_up, if_neg (by omega), x2 i 14 (by omega)]; exact u14
    refine cl_num_step (l := 0) (u := 9) (S := S) rfl rfl (by omega) (by omega) hi (fun _ _ => kO_up (by decide)) (fun _ => kB3_F hi) f1 (h1.frH f1 hi) (by rw [r1]; exact x5) (by omega) (by rw [r1]; exact x9) s14 (fun v2 a2 t2 y2 y3 y4 y5 y6 y7 _ y9 y10 => ?_)
    rw [Option.bind_some]
    obtain ⟨s2, hs2⟩ : ∃ s2, s2 = bo_up t2 i 9 (nI v2) := ⟨_, rfl⟩
    rw [← hs2]
    have f2 : frH i σ s2 := f1.tr (y2.H.tr (by rw [hs2]; exact fun x b _ z => by rw [bq_up_o (by omega)]))
    have r2 : ∀ b, s2 1 b = t2 1 b := fun b => by rw [hs2, bq_up_o (by omega)]
    have s214 : s2 i 14 = nI S := by rw [hs2, bq_up, if_neg (by omega), y2 i 14 (by omega)]; exact s14
    refine cl_num_step (l := 0) (u := 127) (S := S) rfl rfl (by omega) (by omega) hi (fun _ _ => kO_up (by decide)) (fun _ => Fa.end_ hi kB_end) f2 (h1.frH f2 hi) (by rw [r2]; exact y5) (by omega) (by rw [r2]; exact y9) s214 (fun v3 a3 t3 z2 z3 z4 z5 z6 z7 _ z9 z10 => ?_)
    rw [Option.bind_some]
    obtain ⟨s3, hs3⟩ : ∃ s3, s3 = bo_up t3 i 10 (nI v3) := ⟨_, rfl⟩
    rw [← hs3]
    have f3 : frH i σ s3 := f2.tr (z2.H.tr (by rw [hs3]; exact fun x b _ z => by rw [bq_up_o (by omega)]))
    have r3 : ∀ b, s3 1 b = t3 1 b := fun b => by rw [hs3, bq_up_o (by omega)]
    have s314 : s3 i 14 = nI S := by rw [hs3, bq_up, if_neg (by omega), z2 i 14 (by omega)]; exact s214
    refine cl_end_step (S := S) hi kB_end f3 (h1.frH f3 hi) (by rw [r3]; exact z5) (by omega) (by rw [r3]; exact z9) s314 (fun a4 t4 w2 w3 w4 w5 w6 w7 => ?_)
    have ff : frH i σ t4 := f3.tr w2.H
    have rr : ∀ x b, i < x → x ≤ i + 7 → t4 x b = σ x b := fun x b q1 q2 => by
      rw [w2 x b (by omega), hs3, bq_up_o (by omega), z2 x b (by omega), hs2, bq_up_o (by omega), y2 x b (by omega), hs1, bq_up_o (by omega), x2 x b (by omega), hu0, bq_up_o (by omega), f0 x b (by omega)]
    have rc : ∀ b, t4 i b = if b = 10 then nI v3 else if b = 9 then nI v2 else if b = 8 then nI v1 else if b = 7 then 1 else σ i b := fun b => by
      rw [w2 i b (by omega), hs3, bq_up, z2 i b (by omega), hs2, bq_up, y2 i b (by omega), hs1, bq_up, x2 i b (by omega), hu0, bq_up, o0]
      simp
    refine ⟨_, rfl, ff, ⟨h1.frH ff hi, w3, w4, w6, ?_, ?_, ?_⟩, ?_, show a < a4 by omega⟩
    · rw [w7, r3, z10, r2, y10, r1, x10, ru, g5]
    · refine ⟨?_, ?_, ?_, ?_, ?_, ?_, ?_, fun d hd => ?_, fun d hd => ?_, fun d hd => ?_, fun q hq => ?_⟩
      · rw [rc]; simp [bq_up]
      · rw [rc]; simp [bq_up]
      · rw [rc]; simp [bq_up]
      · rw [rc]; simp [bq_up]
      · rw [rc]; simpa using h6.nD
      · rw [rc]; simpa using h6.nG
      · rw [rc]; simpa using h6.nS
      · rw [rr _ _ (by omega) (by omega), rr _ _ (by omega) (by omega), rr _ _ (by omega) (by omega)]
        have h' := h6.dr d hd
        simp [bq_up, h']
      · rw [rr _ _ (by omega) (by omega), rr _ _ (by omega) (by omega)]
        have h' := h6.go d hd
        simp [bq_up, h']
      · rw [rr _ _ (by omega) (by omega)]
        have h' := h6.si d hd
        simp [bq_up, h']
      · rw [rr _ _ (by omega) (by omega)]
        rw [sp_bl_cong (N := N) (M := bo_up (bo_up (bo_up (bo_up N 135 0 1) 135 1 (nI v1)) 135 2 (nI v2)) 135 3 (nI v3)) (funext fun b => by simp [bq_up]) (funext fun b => by simp [bq_up])]
        exact h6.bl q hq
    · rw [rc]; simpa using h8
    · show sp_env (bo_up (bo_up (bo_up (bo_up N 135 0 1) 135 1 (nI v1)) 135 2 (nI v2)) 135 3 (nI v3)) D G S X
      refine ⟨⟨?_, hE'.nD.2⟩, ⟨?_, hE'.nG.2⟩, ⟨?_, hE'.nS.2⟩, ⟨?_, hE'.nX.2⟩, ?_, ?_, ?_, fun d hd => ?_, fun d hd => ?_, fun d hd => ?_, fun d hd => ?_⟩
      · simp only [bq_up]; simpa using hE'.nD.1
      · simp only [bq_up]; simpa using hE'.nG.1
      · simp only [bq_up]; simpa using hE'.nS.1
      · simp only [bq_up]; simpa using hE'.nX.1
      · simp only [bq_up]; simp; exact ⟨v1, rfl, x3, x4⟩
      · simp only [bq_up]; simp; exact ⟨v2, rfl, y3, y4⟩
      · simp only [bq_up]; simp; exact ⟨v3, rfl, z3, z4⟩
      · simp only [bq_up]; simpa using hE'.dr d hd
      · simp only [bq_up]; simpa using hE'.ti d hd
      · simp only [bq_up]; simpa using hE'.go d hd
      · simp only [bq_up]; simpa using hE'.si d hd
  · rw [if_neg c]
    exact cl_full3 hi hc' (kB0_F hi) c
end CLAUSES2
