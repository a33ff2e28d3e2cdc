/-! inn -/
section INN
variable {σ σ' s N : bo_M} {T : Nat → Nat} {m a i D G S X : Nat}
def nO : bo_M := fun _ _ => 0
theorem nO_env : sp_env nO 0 0 0 0 :=
  ⟨⟨rfl, by omega⟩, ⟨rfl, by omega⟩, ⟨rfl, by omega⟩, ⟨rfl, by omega⟩, ⟨0, rfl, by omega, by omega⟩, ⟨0, rfl, by omega, by omega⟩, ⟨0, rfl, by omega, by omega⟩, fun d hd => absurd hd (Nat.not_lt_zero _), fun d hd => absurd hd (Nat.not_lt_zero _), fun d hd => absurd hd (Nat.not_lt_zero _), fun d hd => absurd hd (Nat.not_lt_zero _)⟩
theorem cl_empty (σ : bo_M) (i : Nat) : ∃ t, mX4_empty σ i = some t ∧ frI i σ t ∧ (∀ b, 7 ≤ b → b ≤ 14 → t i b = 0) ∧ ∀ b, b < 96 → t (i + 7) b = 0 := by
  unfold mX4_empty
  simp only [Option.bind_some]
  rw [bq_zero (by omega), Option.bind_some]
  refine ⟨_, rfl, fun x b z => ?_, fun b h1 h2 => ?_, fun b hb => if_pos ⟨rfl, hb⟩⟩
  · dsimp only
    rw [if_neg (by omega), bq_up_o (by omega), bq_up_o (by omega), bq_up_o (by omega), bq_up_o (by omega), bq_up_o (by omega), bq_up_o (by omega), bq_up_o (by omega), bq_up_o (by omega)]
  · rw [if_neg (by omega)]
    simp only [bq_up]
    rcases (show b = 7 ∨ b = 8 ∨ b = 9 ∨ b = 10 ∨ b = 11 ∨ b = 12 ∨ b = 13 ∨ b = 14 by omega) with e | e | e | e | e | e | e | e <;> subst e <;> simp
theorem cl_readall (hi : i = 34 ∨ i = 42) (hT : tx σ T m) : match ps_read T m 240 (ps_sk T m 0, nO, 0, 0, 0, 0) with
    | .error (c, p) => ∃ t, mX7_read σ i = some (nI c, t) ∧ frH i σ t ∧ t 1 5 = nI p ∧ 1 ≤ c ∧ c ≤ 4
    | .ok y => ∃ t, mX7_read σ i = some (0, t) ∧ frH i σ t ∧ t 1 5 = -1 ∧ sp_inn t i y.2.1 y.2.2.1 y.2.2.2.1 y.2.2.2.2.1 y.2.2.2.2.2 ∧ ps_env y := by
  have hm := hT.1
  obtain ⟨s3, hs3⟩ : ∃ s3, s3 = bo_up (bo_up (bo_up σ 1 1 0) 1 3 0) 1 5 (-1) := ⟨_, rfl⟩
  have f3 : fr1 σ s3 := by rw [hs3]; exact ((fr1.up (by omega)).tr (fr1.up (by omega))).tr (fr1.up (by omega))
  obtain ⟨s4, e1, e2, e3, e4⟩ := cl_empty s3 i
  have r4 : ∀ b, s4 1 b = s3 1 b := fun b => e2 1 b (by omega)
  have g1 : s4 1 1 = nI 0 := by rw [r4, hs3, bq_up, if_neg (by omega), bq_up, if_neg (by omega), bq_up_s]; rfl
  have g3 : s4 1 3 = 0 := by rw [r4, hs3, bq_up, if_neg (by omega), bq_up_s]
  have g5 : s4 1 5 = -1 := by rw [r4, hs3, bq_up_s]
  have f4 : frH i σ s4 := f3.H.tr e2.H
  have hc : cr s4 i T m (0, nO, 0, 0, 0, 0) := by
    refine ⟨hT.frH f4 hi, g1, Nat.zero_le _, g3, g5, ⟨?_, ?_, ?_, ?_, ?_, ?_, ?_, fun d hd => absurd hd (Nat.not_lt_zero _), fun d hd => absurd hd (Nat.not_lt_zero _), fun d hd => absurd hd (Nat.not_lt_zero _), fun q hq => ?_⟩, ?_⟩
    · rw [e3 7 (by omega) (by omega)]; rfl
    · rw [e3 8 (by omega) (by omega)]; rfl
    · rw [e3 9 (by omega) (by omega)]; rfl
    · rw [e3 10 (by omega) (by omega)]; rfl
    · rw [e3 11 (by omega) (by omega)]; rfl
    · rw [e3 13 (by omega) (by omega)]; rfl
    · rw [e3 14 (by omega) (by omega)]; rfl
    · rw [e4 q hq]; rfl
    · rw [e3 12 (by omega) (by omega)]; rfl
  obtain ⟨s5, x1, x2, x3⟩ := cr_skip hc hi
  dsimp only at x3
  have hl := cl_loop hi 240 0 bo_fuel s5 _ (by omega) (bq_fuel (by omega)) (Nat.zero_le _) x3 nO_env
  have f5 : frH i σ s5 := f4.tr x2.H
  have hread : ∀ t, mX7_read_L25 i bo_fuel 0 s5 = some t → mX7_read σ i = some (t 1 3, t) := by
    intro t ht
    unfold mX7_read
    simp only [Option.bind_some]
    rw [← hs3, e1, Option.bind_some, x1, Option.bind_some, ht, Option.bind_some]
  cases e : ps_read T m 240 (ps_sk T m 0, nO, 0, 0, 0, 0) with
  | error q =>
    obtain ⟨c, p⟩ := q
    rw [e] at hl
    obtain ⟨t, w1, w2, w3, w4, w5, w6⟩ := hl
    exact ⟨t, by rw [hread t w1, w3], f5.tr w2, w4, w5, w6⟩
  | ok y =>
    rw [e] at hl
    obtain ⟨t, w1, w2, w3, w4⟩ := hl
    exact ⟨t, by rw [hread t w1, w3.2.2.2.1], f5.tr w2, w3.2.2.2.2.1, w3.2.2.2.2.2.1, w4⟩
/-! the reference takes what it read -/
theorem rf_cprow {n0 n1 k r o : Nat} (hro : r ≠ o) (h0 : k ≤ n0) (h1 : k ≤ n1) (hn0 : n0 ≤ 3000) (hn1 : n1 ≤ 3000) (hm : k ≤ 300) {v : Int32} (hv : v = nI k) (s : bo_M) : ∃ s', mX11_copyRow s n0 r n1 o v = some s' ∧ (∀ a b, a ≠ o → s' a b = s a b) ∧ ∀ b, b < k → s' o b = s r b := by
  subst hv
  exact ⟨_, rf_copy hro h0 h1 hn0 hn1 hm, fun a b z => if_neg (fun y => z y.1), fun b hb => if_pos ⟨rfl, hb⟩⟩
theorem sp_env_cg {M : bo_M} (h : sp_env N D G S X) (h1 : ∀ b, b = 1 ∨ b = 2 ∨ b = 3 → M 135 b = N 135 b) (n4 : M 135 4 = nI D) (n11 : M 135 11 = nI G) (n14 : M 135 14 = nI S) (n8 : M 135 8 = nI X)
    (hd : ∀ d, d < D → M 136 d = N 136 d ∧ M 137 d = N 137 d ∧ M 138 d = N 138 d) (ht : ∀ t, t < X → M 139 t = N 139 t ∧ M 140 t = N 140 t) (hg : ∀ g, g < G → M 141 g = N 141 g ∧ M 142 g = N 142 g) (hs : ∀ k, k < S → M 143 k = N 143 k) : sp_env M D G S X := by
  refine ⟨⟨n4, h.nD.2⟩, ⟨n11, h.nG.2⟩, ⟨n14, h.nS.2⟩, ⟨n8, h.nX.2⟩, by rw [h1 1 (by omega)]; exact h.echo, by rw [h1 2 (by omega)]; exact h.takes, by rw [h1 3 (by omega)]; exact h.wet, fun d z => ?_, fun t z => ?_, fun g z => ?_, fun k z => ?_⟩
  · rw [(hd d z).1, (hd d z).2.1, (hd d z).2.2]; exact h.dr d z
  · rw [(ht t z).1, (ht t z).2]; exact h.ti t z
  · rw [(hg g z).1, (hg g z).2]; exact h.go g z
  · rw [hs k z]; exact h.si k z
theorem sp_inn_cg {M : bo_M} (h : sp_inn s i N D G S X) (h0 : M 135 0 &&& 1 = N 135 0 &&& 1) (h1 : ∀ b, b = 1 ∨ b = 2 ∨ b = 3 → M 135 b = N 135 b)
    (hd : ∀ d, d < D → M 136 d = N 136 d ∧ M 137 d = N 137 d ∧ M 138 d = N 138 d) (ht : ∀ t, t < X → M 139 t = N 139 t ∧ M 140 t = N 140 t) (hg : ∀ g, g < G → M 141 g = N 141 g ∧ M 142 g = N 142 g) (hs : ∀ k, k < S → M 143 k = N 143 k) : sp_inn s i M D G S X := by
  refine ⟨by rw [h0]; exact h.open_, by rw [h1 1 (by omega)]; exact h.echo, by rw [h1 2 (by omega)]; exact h.takes, by rw [h1 3 (by omega)]; exact h.wet, h.nD, h.nG, h.nS, fun d z => ?_, fun g z => ?_, fun k z => ?_, fun q z => ?_⟩
  · rw [(hd d z).1, (hd d z).2.1, (hd d z).2.2]; exact h.dr d z
  · rw [(hg g z).1, (hg g z).2]; exact h.go g z
  · rw [hs k z]; exact h.si k z
  · rw [h.bl q z]
    have : sp_bl M X q = sp_bl N X q := by
      unfold sp_bl
      exact sp_any_cong (fun k hk => by rw [(ht k hk).1, (ht k hk).2])
    rw [this]
theorem rf_take {y : PS} (hr : rh σ y) (hE : ps_env y) : ∃ t, mX11_takeRead σ = some t ∧ (∀ x b, ¬ (x = 135 ∧ (b ≤ 4 ∨ b = 8 ∨ b = 11 ∨ b = 14)) → ¬ (136 ≤ x ∧ x ≤ 144) → t x b = σ x b) ∧ (∀ j, j < 107 → t 144 j = 0) ∧ t 135 4 = nI y.2.2.1 ∧
    sp_env t y.2.2.1 y.2.2.2.1 y.2.2.2.2.1 y.2.2.2.2.2 ∧ ∀ s i, sp_inn s i y.2.1 y.2.2.1 y.2.2.2.1 y.2.2.2.2.1 y.2.2.2.2.2 → sp_inn s i t y.2.2.1 y.2.2.2.1 y.2.2.2.2.1 y.2.2.2.2.2 := by
  obtain ⟨a, N, D, G, S, X⟩ := y
  obtain ⟨q1, q2, q3, q4, q5, q6, q7, q8, q9, q10, q11⟩ := hr
  dsimp only at q1 q2 q3 q4 q5 q6 q7 q8 q9 q10 q11 ⊢
  have hE' : sp_env N D G S X := hE
  have d7 := hE'.nD.2
  have d6 := hE'.nG.2
  have d5 := hE'.nS.2
  have d4 := hE'.nX.2
  have hv : ∀ (s : bo_M) (j : Nat) (p : Int32), p = nI j → j < 3 → s 135 24 = σ 135 24 → (∀ b, s 146 b = σ 146 b) → (if (s 135 24 &&& 1) = 0 then some (0 : Int32) else (bo_ld 3 s 146 p).bind fun v => some v) = some (N 135 (j + 1)) := by
    intro s j p hp hj h24 h146
    subst hp
    rw [h24, q1, bq_ld hj (by decide), Option.bind_some, h146]
    by_cases c : N 135 0 &&& 1 = 0
    · obtain ⟨c1, c2, c3⟩ := q2 c
      rw [if_pos c]
      rcases (show j = 0 ∨ j = 1 ∨ j = 2 by omega) with e | e | e <;> subst e
      · rw [c1]
      · rw [c2]
      · rw [c3]
    · obtain ⟨c1, c2, c3⟩ := q3 c
      rw [if_neg c]
      rcases (show j = 0 ∨ j = 1 ∨ j = 2 by omega) with e | e | e <;> subst e
      · rw [c1]
      · rw [c2]
      · rw [c3]
  obtain ⟨s1, hs1⟩ : ∃ s1, s1 = bo_up σ 135 0 (σ 135 24 &&& 1) := ⟨_, rfl⟩
  have r1 : ∀ x b, ¬ (x = 135 ∧ b = 0) → s1 x b = σ x b := fun x b z => by rw [hs1, bq_up, if_neg z]
  obtain ⟨s4, hs4⟩ : ∃ s4, s4 = bo_up s1 135 1 (N 135 1) := ⟨_, rfl⟩
  have r4 : ∀ x b, ¬ (x = 135 ∧ b ≤ 1) → s4 x b = σ x b := fun x b z => by rw [hs4, bq_up, if_neg (by omega), r1 x b (by omega)]
  obtain ⟨s7, hs7⟩ : ∃ s7, s7 = bo_up s4 135 2 (N 135 2) := ⟨_, rfl⟩
  have r7 : ∀ x b, ¬ (x = 135 ∧ b ≤ 2) → s7 x b = σ x b := fun x b z => by rw [hs7, bq_up, if_neg (by omega), r4 x b (by omega)]
  obtain ⟨s10, hs10⟩ : ∃ s10, s10 = bo_up s7 135 3 (N 135 3) := ⟨_, rfl⟩
  have r10 : ∀ x b, ¬ (x = 135 ∧ b ≤ 3) → s10 x b = σ x b := fun x b z => by rw [hs10, bq_up, if_neg (by omega), r7 x b (by omega)]
  obtain ⟨s14, hs14⟩ : ∃ s14, s14 = bo_up (bo_up (bo_up (bo_up s10 135 4 (nI D)) 135 8 (nI X)) 135 11 (nI G)) 135 14 (nI S) := ⟨_, rfl⟩
  have r14 : ∀ x b, ¬ (x = 135 ∧ (b ≤ 4 ∨ b = 8 ∨ b = 11 ∨ b = 14)) → s14 x b = σ x b := fun x b z => by rw [hs14, bq_up, if_neg (by omega), bq_up, if_neg (by omega), bq_up, if_neg (by omega), bq_up, if_neg (by omega), r10 x b (by omega)]
  have w4 : s14 135 4 = nI D := by rw [hs14, bq_up, if_neg (by omega), bq_up, if_neg (by omega), bq_up, if_neg (by omega), bq_up_s]
  have w8 : s14 135 8 = nI X := by rw [hs14, bq_up, if_neg (by omega), bq_up, if_neg (by omega), bq_up_s]
  have w11 : s14 135 11 = nI G := by rw [hs14, bq_up, if_neg (by omega), bq_up_s]
  have w14 : s14 135 14 = nI S := by rw [hs14, bq_up_s]
  have w3 : s14 135 3 = N 135 3 := by rw [hs14, bq_up, if_neg (by omega), bq_up, if_neg (by omega), bq_up, if_neg (by omega), bq_up, if_neg (by omega), hs10, bq_up_s]
  have w2 : s14 135 2 = N 135 2 := by rw [hs14, bq_up, if_neg (by omega), bq_up, if_neg (by omega), bq_up, if_neg (by omega), bq_up, if_neg (by omega), hs10, bq_up, if_neg (by omega), hs7, bq_up_s]
  have w1 : s14 135 1 = N 135 1 := by rw [hs14, bq_up, if_neg (by omega), bq_up, if_neg (by omega), bq_up, if_neg (by omega), bq_up, if_neg (by omega), hs10, bq_up, if_neg (by omega), hs7, bq_up, if_neg (by omega), hs4, bq_up_s]
  have w0 : s14 135 0 = N 135 0 &&& 1 := by rw [hs14, bq_up, if_neg (by omega), bq_up, if_neg (by omega), bq_up, if_neg (by omega), bq_up, if_neg (by omega), hs10, bq_up, if_neg (by omega), hs7, bq_up, if_neg (by omega), hs4, bq_up, if_neg (by omega), hs1, bq_up_s, q1]
  obtain ⟨s15, a1, a2, a3⟩ := rf_cprow (n0 := 7) (n1 := 7) (r := 147) (o := 136) (k := D) (by omega) (by omega) (by omega) (by omega) (by omega) (by omega) w4 s14
  obtain ⟨s16, b1, b2, b3⟩ := rf_cprow (n0 := 7) (n1 := 7) (r := 148) (o := 137) (k := D) (v := s15 135 4) (by omega) (by omega) (by omega) (by omega) (by omega) (by omega) (by rw [a2 135 4 (by omega), w4]) s15
  obtain ⟨s17, c1, c2, c3⟩ := rf_cprow (n0 := 7) (n1 := 7) (r := 149) (o := 138) (k := D) (v := s16 135 4) (by omega) (by omega) (by omega) (by omega) (by omega) (by omega) (by rw [b2 135 4 (by omega), a2 135 4 (by omega), w4]) s16
  have p17 : ∀ x b, ¬ (136 ≤ x ∧ x ≤ 138) → s17 x b = s14 x b := fun x b z => by rw [c2 x b (by omega), b2 x b (by omega), a2 x b (by omega)]
  obtain ⟨s18, d1, d2, d3⟩ := rf_cprow (n0 := 4) (n1 := 4) (r := 150) (o := 139) (k := X) (v := s17 135 8) (by omega) (by omega) (by omega) (by omega) (by omega) (by omega) (by rw [p17 135 8 (by omega), w8]) s17
  obtain ⟨s19, e1, e2, e3⟩ := rf_cprow (n0 := 4) (n1 := 4) (r := 151) (o := 140) (k := X) (v := s18 135 8) (by omega) (by omega) (by omega) (by omega) (by omega) (by omega) (by rw [d2 135 8 (by omega), p17 135 8 (by omega), w8]) s18
  have p19 : ∀ x b, ¬ (136 ≤ x ∧ x ≤ 140) → s19 x b = s14 x b := fun x b z => by rw [e2 x b (by omega), d2 x b (by omega), p17 x b (by omega)]
  obtain ⟨s20, f1, f2, f3⟩ := rf_cprow (n0 := 6) (n1 := 6) (r := 152) (o := 141) (k := G) (v := s19 135 11) (by omega) (by omega) (by omega) (by omega) (by omega) (by omega) (by rw [p19 135 11 (by omega), w11]) s19
  obtain ⟨s21, g1, g2, g3⟩ := rf_cprow (n0 := 6) (n1 := 6) (r := 153) (o := 142) (k := G) (v := s20 135 11) (by omega) (by omega) (by omega) (by omega) (by omega) (by omega) (by rw [f2 135 11 (by omega), p19 135 11 (by omega), w11]) s20
  have p21 : ∀ x b, ¬ (136 ≤ x ∧ x ≤ 142) → s21 x b = s14 x b := fun x b z => by rw [g2 x b (by omega), f2 x b (by omega), p19 x b (by omega)]
  obtain ⟨s22, i1, i2, i3⟩ := rf_cprow (n0 := 5) (n1 := 5) (r := 154) (o := 143) (k := S) (v := s21 135 14) (by omega) (by omega) (by omega) (by omega) (by omega) (by omega) (by rw [p21 135 14 (by omega), w14]) s21
  obtain ⟨t, j1, j2, j3⟩ := bq_inv (fun n s k => mX11_takeRead_L225 n (nI k) s) 107 (fun k r => (∀ j, j < k → r 144 j = 0) ∧ ∀ a, a ≠ 144 → r a = s22 a) (fun r => (∀ j, j < 107 → r 144 j = 0) ∧ ∀ a, a ≠ 144 → r a = s22 a) (by
    intro n k r hk ⟨a1, a2⟩
    by_cases hk8 : k = 107
    · subst hk8
      exact Or.inl ⟨r, by simp only [mX11_takeRead_L225]; rw [if_pos (show (107 : Int32) ≤ nI 107 by decide)], a1, a2⟩
    · refine Or.inr ⟨by omega, bo_up r 144 k 0, ⟨fun j hj => ?_, fun a ha => by rw [bq_up_o ha]; exact a2 a ha⟩, ?_⟩
      · rw [bq_up]
        by_cases z : j = k
        · rw [if_pos ⟨rfl, z⟩]
        · rw [if_neg (fun y => z y.2)]; exact a1 j (by omega)
      · simp only [mX11_takeRead_L225]
        rw [if_neg (show ¬ (107 : Int32) ≤ nI k from nI_ge (b := 107) (by omega) (by decide)), bq_st (by omega) (by decide), Option.bind_some, nI_1]) bo_fuel 0 s22 (Nat.zero_le _) (bq_fuel (by omega)) ⟨fun j hj => absurd hj (Nat.not_lt_zero _), fun _ _ => rfl⟩
  have pt : ∀ x b, ¬ (136 ≤ x ∧ x ≤ 144) → t x b = s14 x b := fun x b z => by rw [j3 x (by omega), i2 x b (by omega), p21 x b (by omega)]
  have m136 : ∀ d, d < D → t 136 d = N 136 d := fun d hd => by rw [j3 136 (by decide), i2 136 d (by omega), g2 136 d (by omega), f2 136 d (by omega), e2 136 d (by omega), d2 136 d (by omega), c2 136 d (by omega), b2 136 d (by omega), a3 d hd, r14 147 d (by omega), (q8 d hd).1]
  have m137 : ∀ d, d < D → t 137 d = N 137 d := fun d hd => by rw [j3 137 (by decide), i2 137 d (by omega), g2 137 d (by omega), f2 137 d (by omega), e2 137 d (by omega), d2 137 d (by omega), c2 137 d (by omega), b3 d hd, a2 148 d (by omega), r14 148 d (by omega), (q8 d hd).2.1]
  have m138 : ∀ d, d < D → t 138 d = N 138 d := fun d hd => by rw [j3 138 (by decide), i2 138 d (by omega), g2 138 d (by omega), f2 138 d (by omega), e2 138 d (by omega), d2 138 d (by omega), c3 d hd, b2 149 d (by omega), a2 149 d (by omega), r14 149 d (by omega), (q8 d hd).2.2]
  have m139 : ∀ d, d < X → t 139 d = N 139 d := fun d hd => by rw [j3 139 (by decide), i2 139 d (by omega), g2 139 d (by omega), f2 139 d (by omega), e2 139 d (by omega), d3 d hd, p17 150 d (by omega), r14 150 d (by omega), (q9 d hd).1]
  have m140 : ∀ d, d < X → t 140 d = N 140 d := fun d hd => by rw [j3 140 (by decide), i2 140 d (by omega), g2 140 d (by omega), f2 140 d (by omega), e3 d hd, d2 151 d (by omega), p17 151 d (by omega), r14 151 d (by omega), (q9 d hd).2]
  have m141 : ∀ d, d < G → t 141 d = N 141 d := fun d hd => by rw [j3 141 (by decide), i2 141 d (by omega), g2 141 d (by omega), f3 d hd, p19 152 d (by omega), r14 152 d (by omega), (q10 d hd).1]
  have m142 : ∀ d, d < G → t 142 d = N 142 d := fun d hd => by rw [j3 142 (by decide), i2 142 d (by omega), g3 d hd, f2 153 d (by omega), p19 153 d (by omega), r14 153 d (by omega), (q10 d hd).2]
  have m143 : ∀ d, d < S → t 143 d = N 143 d := fun d hd => by rw [j3 143 (by decide), i3 d hd, p21 154 d (by omega), r14 154 d (by omega), q11 d hd]
  have m1 : ∀ b, b = 1 ∨ b = 2 ∨ b = 3 → t 135 b = N 135 b := by
    intro b hb
    rw [pt 135 b (by omega)]
    rcases hb with e | e | e <;> subst e
    · exact w1
    · exact w2
    · exact w3
  have m0 : t 135 0 &&& 1 = N 135 0 &&& 1 := by
    rw [pt 135 0 (by omega), w0, Int32.and_assoc]
    rfl
  refine ⟨t, ?_, fun x b z1 z2 => by rw [pt x b z2, r14 x b z1], j2, by rw [pt 135 4 (by omega), w4], ?_, fun s i hI => ?_⟩
  · unfold mX11_takeRead
    rw [Option.bind_some, ← hs1, hv s1 0 0 rfl (by omega) (r1 135 24 (by omega)) (fun b => r1 146 b (by omega)), Option.bind_some, Option.bind_some, ← hs4, hv s4 1 1 rfl (by omega) (r4 135 24 (by omega)) (fun b => r4 146 b (by omega)), Option.bind_some, Option.bind_some, ← hs7, hv s7 2 2 rfl (by omega) (r7 135 24 (by omega)) (fun b => r7 146 b (by omega)), Option.bind_some, Option.bind_some, ← hs10, r10 135 26 (by omega), q4, Option.bind_some, bq_up, if_neg (by omega), r10 135 30 (by omega), q7, Option.bind_some, bq_up, if_neg (by omega), bq_up, if_neg (by omega), r10 135 33 (by omega), q5, Option.bind_some, bq_up, if_neg (by omega), bq_up, if_neg (by omega), bq_up, if_neg (by omega), r10 135 36 (by omega), q6, Option.bind_some, ← hs14, a1, Option.bind_some, b1, Option.bind_some, c1, Option.bind_some, d1, Option.bind_some, e1, Option.bind_some, f1, Option.bind_some, g1, Option.bind_some, i1, Option.bind_some, show mX11_takeRead_L225 bo_fuel 0 s22 = some t from j1, Option.bind_some]
  · exact sp_env_cg hE' m1 (by rw [pt 135 4 (by omega), w4]) (by rw [pt 135 11 (by omega), w11]) (by rw [pt 135 14 (by omega), w14]) (by rw [pt 135 8 (by omega), w8]) (fun d z => ⟨m136 d z, m137 d z, m138 d z⟩) (fun d z => ⟨m139 d z, m140 d z⟩) (fun d z => ⟨m141 d z, m142 d z⟩) m143
  · exact sp_inn_cg hI m0 m1 (fun d z => ⟨m136 d z, m137 d z, m138 d z⟩) (fun d z => ⟨m139 d z, m140 d z⟩) (fun d z => ⟨m141 d z, m142 d z⟩) m143
end INN
