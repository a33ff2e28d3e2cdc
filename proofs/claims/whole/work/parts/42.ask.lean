/-! the askings that change nothing: fault, told, drinker, goer, signal, logged, mistaken, widows, most, judge -/
section ASK
variable {σ s N : bo_M} {D G S X g : Nat} {V : Nat → Int32}
theorem bq_10 : ¬ (1 : Int32) = 0 := by decide
theorem bq_00 : (0 : Int32) = 0 := rfl
theorem rf_whoIsIn (hA : sp_ag s N) (hE : sp_env N D G S X) : mX11_whoIsIn s = some (nI (sp_set (fun d => decide (s 144 d = 1)) D)) := by
  have h7 := hE.nD.2
  unfold mX11_whoIsIn
  obtain ⟨b, hb, hq⟩ := bq_inv (fun n a k => mX11_whoIsIn_L4 s n a (nI k)) D (fun k a => a = nI (sp_set (fun d => decide (s 144 d = 1)) k)) (fun r => r = nI (sp_set (fun d => decide (s 144 d = 1)) D)) (by
    intro n k a hk ha
    subst ha
    have hD : s 135 4 = nI D := by rw [hA.1 4 (by decide)]; exact hE.nD.1
    by_cases h : k = D
    · subst h
      exact Or.inl ⟨_, by simp only [mX11_whoIsIn_L4, hD]; rw [if_pos (Int32.le_refl _)], rfl⟩
    · have hlt : k < D := by omega
      refine Or.inr ⟨hlt, _, rfl, ?_⟩
      simp only [mX11_whoIsIn_L4, hD]
      rw [if_neg (nI_ge hlt (by omega)), rf_ld0 (by omega), Option.bind_some, bq_one_shl (by omega), nI_1]
      by_cases c : s 144 k = 1
      · rw [if_pos c, Option.bind_some, fa_or, sp_set_t (by simp [c])]
      · rw [if_neg c, Option.bind_some, sp_set_f (by simp [c]), show (0 : Int32) = nI 0 from rfl, fa_or, Nat.or_zero]) bo_fuel 0 (nI 0) (Nat.zero_le _) (bq_fuel (by omega)) rfl
  rw [← nI_0, show mX11_whoIsIn_L4 s bo_fuel (nI 0) (nI 0) = some b from hb, hq]
  rfl
theorem cl_logs {e : Nat} (h : sp_rep s e D V g) (hg : V 21 = nI g) (hg2 : g < 2 ^ 31) : mX2_logs s e = some (nI (min g 40)) := by
  unfold mX2_logs
  rw [h.gone, hg]
  by_cases c : 40 < g
  · rw [if_pos (show (40 : Int32) < nI g from nI_lt (a := 40) c hg2), show min g 40 = 40 by omega]; rfl
  · rw [if_neg (show ¬ (40 : Int32) < nI g from nI_nlt (a := 40) (by omega) (by decide)), show min g 40 = g by omega]
theorem cl_ago {e : Nat} (h : sp_rep s e D V g) (hg : V 21 = nI g) (hg2 : g < 2 ^ 31) {i : Nat} (hi : i < min g 40) : mX2_heardAgo s e (nI i) = some (V (27 + (min g 40 - 1 - i))) ∧ mX2_rungAgo s e (nI i) = some (V (67 + (min g 40 - 1 - i))) := by
  have e1 : (nI g - 1) - nI i = nI (g - 1 - i) := by rw [show nI g - 1 = nI (g - 1) from pk_sub (b := 1) (by omega), pk_sub (by omega)]
  have e2 := h.lg (min g 40 - 1 - i) (by omega)
  rw [show g - min g 40 + (min g 40 - 1 - i) = g - 1 - i by omega] at e2
  unfold mX2_heardAgo mX2_rungAgo
  rw [h.gone, hg, e1, show bo_irm (nI (g - 1 - i)) 40 = nI ((g - 1 - i) % 40) from bq_irm (by omega) (by decide) (by decide), bq_at (Nat.mod_lt _ (by decide)) (by decide), bq_at (Nat.mod_lt _ (by decide)) (by decide), e2.1, e2.2]
  exact ⟨rfl, rfl⟩
theorem st_fault (h : in_all σ) : ∃ r, mX10_fault σ = some r ∧ mX11_fault σ = some r := by
  obtain ⟨D, G, S, X, g, hH, hN, hR⟩ := h
  obtain ⟨m, -, -, -, -, e⟩ := hR.1
  exact ⟨_, rfl, by unfold mX11_fault; rw [e]⟩
theorem st_told (h : in_all σ) (p : Int32) : ∃ r, mX10_told σ p = some r ∧ mX11_told σ p = some r := by
  obtain ⟨D, G, S, X, g, hH, hN, hR⟩ := h
  have hg := hN.1.ng.1
  have hgB := hN.1.ng.2
  obtain ⟨m, -, t1, t2, -, -⟩ := hR.1
  obtain ⟨u, π, -, u1, u2, -⟩ := hR.2.2.1
  obtain ⟨w, -, w1, w2, -⟩ := hR.2.2.2.2.1
  obtain ⟨bk, -, b1, b2, -⟩ := hR.2.2.2.2.2
  unfold mX10_told mX11_told
  by_cases h0 : p = 0
  · rw [if_pos h0, if_pos h0]
    exact ⟨_, rfl, by rw [hH.2.1.echo]⟩
  rw [if_neg h0, if_neg h0]
  by_cases h1 : p = 1
  · rw [if_pos h1, if_pos h1]
    exact ⟨_, rfl, by rw [hH.2.1.takes]⟩
  rw [if_neg h1, if_neg h1]
  by_cases h2 : p = 2
  · rw [if_pos h2, if_pos h2]
    exact ⟨_, rfl, by rw [hH.2.1.nD, hH.1.nD.1]⟩
  rw [if_neg h2, if_neg h2]
  by_cases h3 : p = 3
  · rw [if_pos h3, if_pos h3]
    exact ⟨_, rfl, by rw [hH.2.1.nG, hH.1.nG.1]⟩
  rw [if_neg h3, if_neg h3]
  by_cases h4 : p = 4
  · rw [if_pos h4, if_pos h4]
    exact ⟨_, rfl, by rw [hH.2.1.nS, hH.1.nS.1]⟩
  rw [if_neg h4, if_neg h4]
  by_cases h5 : p = 5
  · rw [if_pos h5, if_pos h5]
    exact ⟨_, rfl, by rw [t1, t2]⟩
  rw [if_neg h5, if_neg h5]
  by_cases h6 : p = 6
  · rw [if_pos h6, if_pos h6]
    exact ⟨_, rfl, by rw [hN.2.gone, show bo_ld 107 σ 144 21 = some (σ 144 21) from rf_ldk 21 (by decide)]; rfl⟩
  rw [if_neg h6, if_neg h6]
  by_cases h7 : p = 7
  · rw [if_pos h7, if_pos h7]
    exact ⟨_, rfl, by rw [hN.2.ins, rf_whoIsIn sp_ag.rf hH.1]; rfl⟩
  rw [if_neg h7, if_neg h7]
  by_cases h8 : p = 8
  · rw [if_pos h8, if_pos h8]
    exact ⟨_, rfl, by rw [hN.2.bell, show bo_ld 107 σ 144 22 = some (σ 144 22) from rf_ldk 22 (by decide)]; rfl⟩
  rw [if_neg h8, if_neg h8]
  by_cases h9 : p = 9
  · rw [if_pos h9, if_pos h9]
    rw [cl_isWet hH.2.1 hN.2, rf_wet sp_ag.rf hN.1.rain, Option.bind_some]
    cases sp_wet σ (σ 144) <;> exact ⟨_, rfl, rfl⟩
  rw [if_neg h9, if_neg h9]
  by_cases h10 : p = 10
  · rw [if_pos h10, if_pos h10]
    exact ⟨_, rfl, by rw [hN.2.hung, show bo_ld 107 σ 144 23 = some (σ 144 23) from rf_ldk 23 (by decide)]; rfl⟩
  rw [if_neg h10, if_neg h10]
  by_cases h11 : p = 11
  · rw [if_pos h11, if_pos h11]
    exact ⟨_, rfl, by rw [hN.2.paid, show bo_ld 107 σ 144 24 = some (σ 144 24) from rf_ldk 24 (by decide)]; rfl⟩
  rw [if_neg h11, if_neg h11]
  by_cases h12 : p = 12
  · rw [if_pos h12, if_pos h12]
    exact ⟨_, by rw [cl_logs hN.2 hg (by omega), Option.bind_some], by rw [show bo_ld 107 σ 144 26 = some (σ 144 26) from rf_ldk 26 (by decide), Option.bind_some, hN.1.L]⟩
  rw [if_neg h12, if_neg h12]
  by_cases h13 : p = 13
  · rw [if_pos h13, if_pos h13]
    exact ⟨_, rfl, by rw [hN.2.rain, show bo_ld 107 σ 144 25 = some (σ 144 25) from rf_ldk 25 (by decide)]; rfl⟩
  rw [if_neg h13, if_neg h13]
  by_cases h14 : p = 14
  · rw [if_pos h14, if_pos h14]
    exact ⟨_, rfl, by rw [w1, w2]⟩
  rw [if_neg h14, if_neg h14]
  by_cases h15 : p = 15
  · rw [if_pos h15, if_pos h15]
    exact ⟨_, rfl, by rw [b1, b2]⟩
  rw [if_neg h15, if_neg h15]
  by_cases h16 : p = 16
  · rw [if_pos h16, if_pos h16]
    exact ⟨_, rfl, by rw [u1, u2]⟩
  rw [if_neg h16, if_neg h16]
  exact ⟨_, rfl, rfl⟩
theorem cl_isDrinker (hH : in_house σ D G S X) (p : Int32) : mX4_hasDrinker σ (bo_inn (σ 0 9)) p = some (if 0 ≤ p ∧ p < nI D then 1 else 0) := by
  have h7 := hH.1.nD.2
  unfold mX4_hasDrinker
  exact cl_has (o := 0) (by omega) hH.2.1.nD
theorem rf_isDrinker (hE : sp_env N D G S X) (hA : sp_ag s N) (p : Int32) : mX11_isDrinker s p = some (if 0 ≤ p ∧ p < nI D then 1 else 0) := by
  have h7 := hE.nD.2
  unfold mX11_isDrinker
  rw [rf_has (n := D) (by omega) (by rw [hA.1 4 (by decide)]; exact hE.nD.1)]
  rfl
theorem bq_pick {p : Int32} {n : Nat} (hn : n < 2 ^ 31) (c : 0 ≤ p ∧ p < nI n) : ∃ d, p = nI d ∧ d < n := by
  rcases bq_ix (p := p) (n := n) hn with (z | z) | ⟨d, hd, e⟩
  · exact absurd z (bq_nlt.mpr c.1)
  · exact absurd z (bq_nle.mpr c.2)
  · exact ⟨d, e, hd⟩
theorem bq_01 {v : Int32} (h : bq_r v 0 1) : nI (if decide (v = 1) then 1 else 0) = v := by
  obtain ⟨n, hn, -, h2⟩ := h
  rcases (show n = 0 ∨ n = 1 by omega) with e | e <;> subst e <;> subst hn <;> decide
theorem cl_bitin (hN : in_now σ D g) (h7 : D ≤ 7) {d : Nat} (hd : d < D) : ((σ 50 5) >>> (nI d &&& 31)) &&& 1 = σ 144 d := by
  rw [hN.2.ins, bq_bit (Nat.lt_trans (sp_set_127 h7) (by decide)) (by omega), sp_set_bit]
  rw [show (decide (d < D) && decide (σ 144 d = 1)) = decide (σ 144 d = 1) by simp [hd]]
  exact bq_01 (hN.1.dr d (by omega)).1
theorem st_drinker (h : in_all σ) (p q : Int32) : ∃ r, mX10_drinker σ p q = some r ∧ mX11_drinker σ p q = some r := by
  obtain ⟨D, G, S, X, g, hH, hN, hR⟩ := h
  have h7 := hH.1.nD.2
  unfold mX10_drinker mX11_drinker
  rw [cl_isDrinker hH, rf_isDrinker hH.1 sp_ag.rf, Option.bind_some, Option.bind_some]
  by_cases c : 0 ≤ p ∧ p < nI D
  · rw [if_pos c, if_neg bq_10, if_neg bq_10]
    obtain ⟨d, rfl, hd⟩ := bq_pick (by omega) c
    have hdr := hH.2.1.dr d hd
    by_cases h0 : q = 0
    · rw [if_pos h0, if_pos h0]
      rw [bq_at (by omega) (by decide), bq_ld (by omega) (by decide), hdr.1]
      exact ⟨_, rfl, rfl⟩
    rw [if_neg h0, if_neg h0]
    by_cases h1 : q = 1
    · rw [if_pos h1, if_pos h1]
      rw [bq_at (by omega) (by decide), bq_ld (by omega) (by decide), hdr.2.1]
      exact ⟨_, rfl, rfl⟩
    rw [if_neg h1, if_neg h1]
    by_cases h2 : q = 2
    · rw [if_pos h2, if_pos h2]
      rw [bq_at (by omega) (by decide), bq_ld (by omega) (by decide), hdr.2.2]
      exact ⟨_, rfl, rfl⟩
    rw [if_neg h2, if_neg h2]
    by_cases h3 : q = 3
    · rw [if_pos h3, if_pos h3]
      unfold mX10_bit
      rw [cl_bitin hN h7 hd, rf_ld0 (by omega)]
      exact ⟨_, rfl, rfl⟩
    rw [if_neg h3, if_neg h3]
    by_cases h4 : q = 4
    · rw [if_pos h4, if_pos h4]
      rw [bq_at (by omega) (by decide), rf_ld7 (by omega), show σ 51 d = σ 144 (7 + d) from (hN.2.dr d (by omega)).1]
      exact ⟨_, rfl, rfl⟩
    rw [if_neg h4, if_neg h4]
    by_cases h5 : q = 5
    · rw [if_pos h5, if_pos h5]
      rw [bq_at (by omega) (by decide), rf_ld14 (by omega), show σ 52 d = σ 144 (14 + d) from (hN.2.dr d (by omega)).2]
      exact ⟨_, rfl, rfl⟩
    rw [if_neg h5, if_neg h5]
    by_cases h6 : q = 6
    · rw [if_pos h6, if_pos h6]
      unfold mX10_bit
      rw [cl_thirsty hH.2.1 hH.1 hN.2, Option.bind_some, bq_bit (Nat.lt_trans (sp_set_127 h7) (by decide)) (by omega), sp_set_bit, rf_ring sp_ag.rf hH.1 hd, Option.bind_some, Option.bind_some]
      cases sp_ring σ (σ 144) d <;> simp [hd] <;> rfl
    rw [if_neg h6, if_neg h6]
    exact ⟨_, rfl, rfl⟩
  · rw [if_neg c, if_pos bq_00, if_pos bq_00]
    exact ⟨_, rfl, rfl⟩
theorem st_goer (h : in_all σ) (p q : Int32) : ∃ r, mX10_goer σ p q = some r ∧ mX11_goer σ p q = some r := by
  obtain ⟨D, G, S, X, g, hH, hN, hR⟩ := h
  have h6 := hH.1.nG.2
  have e1 : mX4_hasGoer σ (bo_inn (σ 0 9)) p = some (if 0 ≤ p ∧ p < nI G then 1 else 0) := by
    unfold mX4_hasGoer
    exact cl_has (o := 0) (by omega) hH.2.1.nG
  have e2 : mX11_isGoer σ p = some (if 0 ≤ p ∧ p < nI G then 1 else 0) := by
    unfold mX11_isGoer
    rw [rf_has (n := G) (by omega) hH.1.nG.1]
    rfl
  unfold mX10_goer mX11_goer
  rw [e1, e2, Option.bind_some, Option.bind_some]
  by_cases c : 0 ≤ p ∧ p < nI G
  · rw [if_pos c, if_neg bq_10, if_neg bq_10]
    obtain ⟨d, rfl, hd⟩ := bq_pick (by omega) c
    have hgo := hH.2.1.go d hd
    by_cases h0 : q = 0
    · rw [if_pos h0, if_pos h0, bq_at (by omega) (by decide), bq_ld (by omega) (by decide), hgo.1]
      exact ⟨_, rfl, rfl⟩
    rw [if_neg h0, if_neg h0]
    by_cases h1 : q = 1
    · rw [if_pos h1, if_pos h1, bq_at (by omega) (by decide), bq_ld (by omega) (by decide), hgo.2]
      exact ⟨_, rfl, rfl⟩
    rw [if_neg h1, if_neg h1]
    exact ⟨_, rfl, rfl⟩
  · rw [if_neg c, if_pos bq_00, if_pos bq_00]
    exact ⟨_, rfl, rfl⟩
theorem st_signal (h : in_all σ) (p : Int32) : ∃ r, mX10_signal σ p = some r ∧ mX11_signal σ p = some r := by
  obtain ⟨D, G, S, X, g, hH, hN, hR⟩ := h
  have h5 := hH.1.nS.2
  unfold mX10_signal mX11_signal
  rw [rf_has (n := S) (by omega) hH.1.nS.1, Option.bind_some, hH.2.1.nS]
  by_cases c : 0 ≤ p ∧ p < nI S
  · rw [if_pos c, if_neg bq_10, if_neg (bq_nlt.mpr c.1), if_pos c.2]
    obtain ⟨d, rfl, hd⟩ := bq_pick (by omega) c
    rw [bq_at (by omega) (by decide), bq_ld (by omega) (by decide), hH.2.1.si d hd]
    exact ⟨_, rfl, rfl⟩
  · rw [if_neg c, if_pos bq_00]
    refine ⟨_, ?_, rfl⟩
    by_cases c1 : p < 0
    · rw [if_pos c1]
    · rw [if_neg c1, if_neg (fun z => c ⟨fa_of_nlt c1, z⟩)]
theorem st_logged (h : in_all σ) (p q : Int32) : ∃ r, mX10_logged σ p q = some r ∧ mX11_logged σ p q = some r := by
  obtain ⟨D, G, S, X, g, hH, hN, hR⟩ := h
  have hg := hN.1.ng.1
  have hgB := hN.1.ng.2
  unfold mX10_logged mX11_logged
  rw [rf_in (b := 0) (c := 1) (by decide +kernel) (by decide +kernel), Option.bind_some]
  by_cases c : 0 ≤ q ∧ q ≤ 1
  · rw [if_pos c, if_neg (bq_nlt.mpr c.1), if_pos c.2, if_neg bq_10, show bo_ld 107 σ 144 26 = some (σ 144 26) from rf_ldk 26 (by decide), Option.bind_some, Option.bind_some, hN.1.L, rf_has (n := min g 40) (by omega) rfl, Option.bind_some, cl_logs hN.2 hg (by omega), Option.bind_some]
    by_cases c2 : 0 ≤ p ∧ p < nI (min g 40)
    · rw [if_pos c2, if_neg bq_10, if_neg (bq_nlt.mpr c2.1), if_pos c2.2]
      obtain ⟨i, rfl, hi⟩ := bq_pick (by omega) c2
      obtain ⟨e1, e2⟩ := cl_ago hN.2 hg (by omega) hi
      have e3 : (nI (min g 40) - 1) - nI i = nI (min g 40 - 1 - i) := by rw [show nI (min g 40) - 1 = nI (min g 40 - 1) from pk_sub (b := 1) (by omega), pk_sub (by omega)]
      rw [e1, e2, e3, show (27 : Int32) + nI (min g 40 - 1 - i) = nI (27 + (min g 40 - 1 - i)) from nI_add 27 _, show (67 : Int32) + nI (min g 40 - 1 - i) = nI (67 + (min g 40 - 1 - i)) from nI_add 67 _, rf_ldk _ (by omega), rf_ldk _ (by omega)]
      by_cases c3 : q = 0
      · simp only [if_pos c3]; exact ⟨_, rfl, rfl⟩
      · simp only [if_neg c3]; exact ⟨_, rfl, rfl⟩
    · rw [if_neg c2, if_pos bq_00]
      refine ⟨_, ?_, rfl⟩
      by_cases c1 : p < 0
      · rw [if_pos c1]
      · rw [if_neg c1, if_neg (fun z => c2 ⟨fa_of_nlt c1, z⟩)]
  · rw [if_neg c, if_pos bq_00]
    refine ⟨_, ?_, rfl⟩
    by_cases c1 : q < 0
    · rw [if_pos c1]
    · rw [if_neg c1, if_neg (fun z => c ⟨fa_of_nlt c1, z⟩)]
theorem st_judge (h : in_all σ) : ∃ r, mX10_judge σ = some r ∧ mX11_judge σ = some r := by
  obtain ⟨D, G, S, X, g, hH, hN, hR⟩ := h
  have h7 := hH.1.nD.2
  obtain ⟨w, hw, b1, b2, b3⟩ := hR.2.2.2.2.2
  unfold mX10_judge mX0_firstWrong mX11_judge
  have key : ∀ (m k n1 n2 : Nat), k + m = w → m < n1 → m < n2 → ∃ r, mX0_firstWrong_L2 σ 50 n1 (nI k) = some r ∧ mX11_judge_L2 σ n2 (nI k) = some r := by
    intro m
    induction m with
    | zero =>
      intro k n1 n2 hk h1 h2
      obtain ⟨n1, rfl⟩ : ∃ q, n1 = q + 1 := ⟨n1 - 1, by omega⟩
      obtain ⟨n2, rfl⟩ : ∃ q, n2 = q + 1 := ⟨n2 - 1, by omega⟩
      simp only [mX0_firstWrong_L2, mX11_judge_L2, b1, b2]
      rw [if_pos (nI_le (by omega) (by omega)), if_pos (nI_le (by omega) (by omega))]
      exact ⟨_, rfl, rfl⟩
    | succ m ih =>
      intro k n1 n2 hk h1 h2
      obtain ⟨n1, rfl⟩ : ∃ q, n1 = q + 1 := ⟨n1 - 1, by omega⟩
      obtain ⟨n2, rfl⟩ : ∃ q, n2 = q + 1 := ⟨n2 - 1, by omega⟩
      obtain ⟨e1, e2, d, e3, e4⟩ := b3 k (by omega)
      simp only [mX0_firstWrong_L2, mX11_judge_L2, b1, b2]
      rw [if_neg (nI_ge (by omega) (by omega)), if_neg (nI_ge (by omega) (by omega)), bq_at (by omega) (by decide), Option.bind_some, bq_ld (by omega) (by decide), Option.bind_some, ← e1, e3, bq_at (by omega) (by decide), Option.bind_some, rf_ld7 (by omega), Option.bind_some, bq_at (by omega) (by decide), Option.bind_some, bq_ld (by omega) (by decide), Option.bind_some, ← e2, show σ (50 + 1) d = σ 144 (7 + d) from (hN.2.dr d (by omega)).1, nI_1]
      by_cases c : σ 144 (7 + d) = σ 31 k
      · rw [if_pos c, if_pos c]
        exact ih (k + 1) n1 n2 (by omega) (by omega) (by omega)
      · rw [if_neg c, if_neg c]
        exact ⟨_, rfl, rfl⟩
  obtain ⟨r, k1, k2⟩ := key w 0 bo_fuel bo_fuel (by omega) (bq_fuel (by omega)) (bq_fuel (by omega))
  rw [nI_0] at k1 k2
  exact ⟨r, by rw [k1]; rfl, k2⟩
theorem st_most (h : in_all σ) : ∃ r, mX10_most σ = some r ∧ mX11_most σ = some r := by
  obtain ⟨D, G, S, X, g, hH, hN, hR⟩ := h
  have h7 := hH.1.nD.2
  unfold mX10_most mX11_most
  have key : ∀ (m k n1 n2 : Nat) (a b : Int32), k + m = D → m < n1 → m < n2 → ∃ r, mX10_most_L6 σ n1 a b (nI k) = some r ∧ mX11_most_L6 σ n2 a b (nI k) = some r := by
    intro m
    induction m with
    | zero =>
      intro k n1 n2 a b hk h1 h2
      obtain ⟨n1, rfl⟩ : ∃ q, n1 = q + 1 := ⟨n1 - 1, by omega⟩
      obtain ⟨n2, rfl⟩ : ∃ q, n2 = q + 1 := ⟨n2 - 1, by omega⟩
      simp only [mX10_most_L6, mX11_most_L6, hH.2.1.nD, hH.1.nD.1]
      rw [if_pos (nI_le (by omega) (by omega)), if_pos (nI_le (by omega) (by omega))]
      exact ⟨_, rfl, rfl⟩
    | succ m ih =>
      intro k n1 n2 a b hk h1 h2
      obtain ⟨n1, rfl⟩ : ∃ q, n1 = q + 1 := ⟨n1 - 1, by omega⟩
      obtain ⟨n2, rfl⟩ : ∃ q, n2 = q + 1 := ⟨n2 - 1, by omega⟩
      simp only [mX10_most_L6, mX11_most_L6, hH.2.1.nD, hH.1.nD.1]
      rw [if_neg (nI_ge (by omega) (by omega)), if_neg (nI_ge (by omega) (by omega)), bq_at (by omega) (by decide), Option.bind_some, rf_ld7 (by omega), Option.bind_some, Option.bind_some, Option.bind_some, show σ 51 k = σ 144 (7 + k) from (hN.2.dr k (by omega)).1, nI_1]
      by_cases c : σ 144 (7 + k) ≤ b
      · simp only [if_pos c, Option.bind_some]
        exact ih (k + 1) n1 n2 a b (by omega) (by omega) (by omega)
      · simp only [if_neg c, Option.bind_some]
        exact ih (k + 1) n1 n2 _ _ (by omega) (by omega) (by omega)
  obtain ⟨r, k1, k2⟩ := key D 0 bo_fuel bo_fuel (-1) 0 (by omega) (bq_fuel (by omega)) (bq_fuel (by omega))
  rw [nI_0] at k1 k2
  exact ⟨r, by rw [k1]; rfl, by rw [k2]; rfl⟩
end ASK
