section LAT
variable {σ s N : bo_M} {D G S X g : Nat}
theorem sp_fh_cases {f : Nat → Int32} {k : Int32} : ∀ (m j : Nat), sp_fh f k m j = -1 ∨ ∃ a, sp_fh f k m j = nI a ∧ a < j + m
  | 0, _ => Or.inl rfl
  | m + 1, j => by
    unfold sp_fh
    by_cases h : f j < k
    · rw [if_pos h]
      rcases sp_fh_cases (f := f) (k := k) m (j + 1) with e | ⟨a, e, l⟩
      · exact Or.inl e
      · exact Or.inr ⟨a, e, by omega⟩
    · rw [if_neg h]
      exact Or.inr ⟨j, rfl, by omega⟩
def sp_lateb (fh : Int32) (N : bo_M) (q : Int32) (d : Nat) : Bool := decide (fh = -1) || !decide (fh + N 142 d ≤ bo_irm ((N 141 d + 96) - bo_irm q 96) 96)
theorem cl_lateBy (hI : sp_inn s (bo_inn (s 0 9)) N D G S X) (hE : sp_env N D G S X) (p : Int32) : mX10_lateBy s p = some (nI (sp_set (sp_lateb (sp_fh (s 23) p 96 0) N (s 50 4)) G)) := by
  have h6 := hE.nG.2
  unfold mX10_lateBy
  rw [show mX9_firstHeard s p 96 = _ from cl_first_heard (q := 96) (by decide), Option.bind_some]
  generalize sp_fh (s 23) p 96 0 = fh
  obtain ⟨b, hb, hq⟩ := bq_inv (fun n a k => mX10_lateBy_L16 s fh n a (nI k)) G (fun k a => a = nI (sp_set (sp_lateb fh N (s 50 4)) k)) (fun r => r = nI (sp_set (sp_lateb fh N (s 50 4)) G)) (by
    intro n k a hk ha
    subst ha
    by_cases h : k = G
    · subst h
      exact Or.inl ⟨_, by simp only [mX10_lateBy_L16, hI.nG]; rw [if_pos (Int32.le_refl _)], rfl⟩
    · have hlt : k < G := by omega
      refine Or.inr ⟨hlt, _, rfl, ?_⟩
      simp only [mX10_lateBy_L16, hI.nG]
      rw [if_neg (nI_ge hlt (by omega)), bq_at (by omega) (by decide), Option.bind_some, (hI.go k hlt).1, bq_at (by omega) (by decide), Option.bind_some, (hI.go k hlt).2, bq_one_shl (by omega), fa_or, nI_1]
      by_cases c1 : fh = -1
      · rw [if_pos c1, Option.bind_some, sp_set_t (by unfold sp_lateb; simp [c1])]
      · rw [if_neg c1]
        by_cases c2 : fh + N 142 k ≤ bo_irm ((N 141 k + 96) - bo_irm (s 50 4) 96) 96
        · rw [if_pos c2, Option.bind_some, sp_set_f (by unfold sp_lateb; simp [c1, c2])]
        · rw [if_neg c2, Option.bind_some, sp_set_t (by unfold sp_lateb; simp [c2])]) bo_fuel 0 (nI 0) (Nat.zero_le _) (bq_fuel (by omega)) rfl
  rw [← nI_0, show mX10_lateBy_L16 s fh bo_fuel (nI 0) (nI 0) = some b from hb, hq]
  rfl
theorem rf_isLate (hA : sp_ag s N) (hE : sp_env N D G S X) (p : Int32) {d : Nat} (hd : d < G) : mX11_isLate s (nI d) p = some (if sp_lateb (sp_fh (s 157) p 96 0) N (s 144 21) d then 1 else 0) := by
  have h6 := hE.nG.2
  unfold mX11_isLate
  rw [show mX11_firstHeard s p 96 = _ from rf_first_heard (q := 96) (by decide), Option.bind_some, bq_ld (by omega) (by decide), Option.bind_some, hA.2 141 (by decide) (by decide), show bo_ld 107 s 144 21 = some (s 144 21) from rf_ldk 21 (by decide), Option.bind_some, bq_ld (by omega) (by decide), Option.bind_some, hA.2 142 (by decide) (by decide)]
  unfold sp_lateb
  rcases sp_fh_cases (f := s 157) (k := p) 96 0 with e | ⟨a, e, l⟩
  · rw [e, if_pos (by decide)]
    rfl
  · rw [e, if_neg (nI_pos (by omega))]
    have c1 : ¬ nI a = -1 := fun z => by
      have := nI_pos (n := a) (by omega)
      rw [z] at this
      exact this (by decide)
    by_cases c2 : nI a + N 142 d ≤ bo_irm ((N 141 d + 96) - bo_irm (s 144 21) 96) 96
    · rw [if_pos c2]; simp [c1, c2]
    · rw [if_neg c2]; simp [c2]
theorem rf_lateOnes (hA : sp_ag s N) (hE : sp_env N D G S X) (p : Int32) : mX11_lateOnes s p = some (nI (sp_set (sp_lateb (sp_fh (s 157) p 96 0) N (s 144 21)) G)) := by
  have h6 := hE.nG.2
  unfold mX11_lateOnes
  obtain ⟨b, hb, hq⟩ := bq_inv (fun n a k => mX11_lateOnes_L4 s p n a (nI k)) G (fun k a => a = nI (sp_set (sp_lateb (sp_fh (s 157) p 96 0) N (s 144 21)) k)) (fun r => r = nI (sp_set (sp_lateb (sp_fh (s 157) p 96 0) N (s 144 21)) G)) (by
    intro n k a hk ha
    subst ha
    have hG : s 135 11 = nI G := by rw [hA.1 11 (by decide)]; exact hE.nG.1
    by_cases h : k = G
    · subst h
      exact Or.inl ⟨_, by simp only [mX11_lateOnes_L4, hG]; rw [if_pos (Int32.le_refl _)], rfl⟩
    · have hlt : k < G := by omega
      refine Or.inr ⟨hlt, _, rfl, ?_⟩
      simp only [mX11_lateOnes_L4, hG]
      rw [if_neg (nI_ge hlt (by omega)), rf_isLate hA hE p hlt, Option.bind_some, bq_one_shl (by omega), nI_1]
      cases c : sp_lateb (sp_fh (s 157) p 96 0) N (s 144 21) k with
      | true => rw [if_neg (by decide), Option.bind_some, fa_or, sp_set_t c]
      | false => rw [if_pos (by decide), Option.bind_some, sp_set_f c, show (0 : Int32) = nI 0 from rfl, fa_or, Nat.or_zero]) bo_fuel 0 (nI 0) (Nat.zero_le _) (bq_fuel (by omega)) rfl
  rw [← nI_0, show mX11_lateOnes_L4 s p bo_fuel (nI 0) (nI 0) = some b from hb, hq]
  rfl
theorem rf_bits {a : Nat} (ha : a < 2 ^ 31) : mX11_bits s (nI a) = some (nI (sp_cnt (fun k => a.testBit k) 7)) := by
  unfold mX11_bits
  obtain ⟨b, hb, hq⟩ := bq_inv (fun n c k => mX11_bits_L4 s (nI a) n c (nI k)) 7 (fun k c => c = nI (sp_cnt (fun k => a.testBit k) k)) (fun r => r = nI (sp_cnt (fun k => a.testBit k) 7)) (by
    intro n k c hk hc
    subst hc
    by_cases h : k = 7
    · subst h
      exact Or.inl ⟨_, by simp only [mX11_bits_L4]; rw [if_pos (show (7 : Int32) ≤ nI 7 from Int32.le_refl _)], rfl⟩
    · have hlt : k < 7 := by omega
      refine Or.inr ⟨hlt, _, rfl, ?_⟩
      simp only [mX11_bits_L4]
      rw [if_neg (show ¬ (7 : Int32) ≤ nI k from nI_ge (b := 7) hlt (by decide)), bq_bit ha (by omega), nI_add, nI_1]
      rfl) bo_fuel 0 (nI 0) (Nat.zero_le _) (bq_fuel (by omega)) rfl
  rw [← nI_0, show mX11_bits_L4 s (nI a) bo_fuel (nI 0) (nI 0) = some b from hb, hq]
  rfl
theorem rf_bitset {b : Nat → Bool} {n : Nat} (hn : n ≤ 7) : mX11_bits s (nI (sp_set b n)) = some (nI (sp_cnt b n)) := by
  rw [rf_bits (Nat.lt_trans (sp_set_127 hn) (by decide))]
  congr 2
  rw [sp_cnt_ext (n := n) (fun k hk => by rw [sp_set_bit]; simp; omega) hn]
  exact sp_cnt_cong (fun k hk => by rw [sp_set_bit]; simp [hk])
/-- what stands behind tr_both for those who go by the bell: both sides ask the same row -/
theorem tr_late (hH : in_house σ D G S X) (hN : in_now σ D g) (hR : in_rest σ D) :
    ∃ σ1 σ2, mX9_run σ (bo_inn (σ 0 9)) 50 96 = some σ1 ∧ mX11_lookAhead σ1 = some σ2 ∧ in_all σ2 ∧ (∀ a, (a < 18 ∨ 23 < a) → σ1 a = σ a) ∧
      ∃ lt : Int32 → Nat → Bool, (∀ p, mX10_lateBy σ1 p = some (nI (sp_set (lt p) G))) ∧ (∀ p, mX11_lateOnes σ2 p = some (nI (sp_set (lt p) G))) ∧ ∀ p d, d < G → mX11_isLate σ2 (nI d) p = some (if lt p d then 1 else 0) := by
  obtain ⟨σ1, σ2, a1, a2, a3, a4, a5, a6, a7, a8⟩ := tr_both hH hN hR (n := 96) (by omega)
  have hI : sp_inn σ1 (bo_inn (σ1 0 9)) σ D G S X := by
    rw [a4 0 (by omega)]
    refine hH.2.1.to (fun a z1 z2 => a4 a ?_)
    rcases bo_inn_ok (σ 0 9) with z | z <;> omega
  have hA : sp_ag σ2 σ := sp_ag.rf.to (fun a z1 z2 => by rw [a5 a (by omega), a4 a (by omega)])
  have e1 : ∀ p, sp_fh (σ1 23) p 96 0 = sp_fh (σ2 157) p 96 0 := fun p => sp_fh_cong 96 0 (fun a _ z => by rw [a6 a (by omega), (a7 a (by omega)).1])
  have e2 : σ1 50 4 = σ2 144 21 := by rw [a5 144 (by omega), a4 144 (by omega), a4 50 (by omega), hN.2.gone]
  refine ⟨σ1, σ2, a1, a2, a3, a4, fun p => sp_lateb (sp_fh (σ2 157) p 96 0) σ (σ2 144 21), fun p => ?_, fun p => rf_lateOnes hA hH.1 p, fun p d hd => rf_isLate hA hH.1 p hd⟩
  rw [cl_lateBy hI hH.1 p, e1, e2]
theorem st_late (h : in_all σ) (p : Int32) : ∃ r σ1 σ2, mX10_late σ p = some (r, σ1) ∧ mX11_late σ1 p = some (r, σ2) ∧ in_all σ2 := by
  obtain ⟨D, G, S, X, g, hH, hN, hR⟩ := id h
  refine pre_WW (fm := fun s => mX11_late s p) h (1 ≤ p ∧ p ≤ 16) (by unfold mX10_late; rw [cl_rng, cl_preW hH]) (fun c => ?_) (fun c ho => ?_) (fun c ho => ?_)
  · unfold mX11_late
    rw [rf_in (b := 1) (c := 16) (by decide +kernel) (by decide +kernel), if_neg c]; rfl
  · unfold mX11_late
    rw [rf_in (b := 1) (c := 16) (by decide +kernel) (by decide +kernel), if_pos c, Option.bind_some, if_neg (by decide), if_pos (sp_open_f ho)]
  · obtain ⟨σ1, σ2, a1, a2, a3, a4, lt, b1, b2, b3⟩ := tr_late hH hN hR
    refine ⟨_, σ1, σ2, by rw [a1, Option.bind_some, b1, Option.bind_some], ?_, a3⟩
    unfold mX11_late
    rw [rf_in (b := 1) (c := 16) (by decide +kernel) (by decide +kernel), if_pos c, Option.bind_some, if_neg (by decide), a4 135 (by omega), if_neg (sp_open_t ho), a2, Option.bind_some, b2, Option.bind_some]
theorem st_best (h : in_all σ) (p : Int32) : ∃ r σ1 σ2, mX10_best σ p = some (r, σ1) ∧ mX11_best σ1 p = some (r, σ2) ∧ in_all σ2 := by
  obtain ⟨D, G, S, X, g, hH, hN, hR⟩ := id h
  have h6 := hH.1.nG.2
  refine pre_WW (fm := fun s => mX11_best s p) h (0 ≤ p ∧ p ≤ 1) (by unfold mX10_best; rw [cl_rng, cl_preW hH]) (fun c => ?_) (fun c ho => ?_) (fun c ho => ?_)
  · unfold mX11_best
    rw [rf_in (b := 0) (c := 1) (by decide +kernel) (by decide +kernel), if_neg c]; rfl
  · unfold mX11_best
    rw [rf_in (b := 0) (c := 1) (by decide +kernel) (by decide +kernel), if_pos c, Option.bind_some, if_neg (by decide), if_pos (sp_open_f ho)]
  · obtain ⟨σ1, σ2, a1, a2, a3, a4, lt, b1, b2, b3⟩ := tr_late hH hN hR
    have stepc : ∀ (n k : Nat) (w f : Int32), k ≤ 16 → mX10_best_L51 σ1 p (n + 1) w f (nI k) = if f ≤ nI (sp_cnt (lt (nI k)) G) then mX10_best_L51 σ1 p n w f (nI (k + 1)) else mX10_best_L51 σ1 p n (nI k) (nI (sp_cnt (lt (nI k)) G)) (nI (k + 1)) := by
      intro n k w f hk
      simp only [mX10_best_L51]
      rw [if_neg (show ¬ (16 : Int32) < nI k from nI_nlt (a := 16) hk (by decide)), b1, Option.bind_some, bq_popset (by omega), Option.bind_some, nI_1]
      split <;> rfl
    have stepr : ∀ (n k : Nat) (w f : Int32), k ≤ 16 → mX11_best_L37 σ2 p (n + 1) w f (nI k) = if f ≤ nI (sp_cnt (lt (nI k)) G) then mX11_best_L37 σ2 p n w f (nI (k + 1)) else mX11_best_L37 σ2 p n (nI k) (nI (sp_cnt (lt (nI k)) G)) (nI (k + 1)) := by
      intro n k w f hk
      simp only [mX11_best_L37]
      rw [if_neg (show ¬ (16 : Int32) < nI k from nI_nlt (a := 16) hk (by decide)), b2, Option.bind_some, rf_bitset (by omega), Option.bind_some, nI_1]
      split <;> rfl
    have key : ∀ (m k n1 n2 : Nat) (w f : Int32), k + m = 17 → m < n1 → m < n2 → ∃ r, mX10_best_L51 σ1 p n1 w f (nI k) = some r ∧ mX11_best_L37 σ2 p n2 w f (nI k) = some r := by
      intro m
      induction m with
      | zero =>
        intro k n1 n2 w f hk h1 h2
        obtain ⟨n1, rfl⟩ : ∃ q, n1 = q + 1 := ⟨n1 - 1, by omega⟩
        obtain ⟨n2, rfl⟩ : ∃ q, n2 = q + 1 := ⟨n2 - 1, by omega⟩
        refine ⟨(w, f), ?_, ?_⟩
        · simp only [mX10_best_L51]; rw [if_pos (show (16 : Int32) < nI k from nI_lt (a := 16) (by omega) (by omega))]
        · simp only [mX11_best_L37]; rw [if_pos (show (16 : Int32) < nI k from nI_lt (a := 16) (by omega) (by omega))]
      | succ m ih =>
        intro k n1 n2 w f hk h1 h2
        obtain ⟨n1, rfl⟩ : ∃ q, n1 = q + 1 := ⟨n1 - 1, by omega⟩
        obtain ⟨n2, rfl⟩ : ∃ q, n2 = q + 1 := ⟨n2 - 1, by omega⟩
        rw [stepc n1 k w f (by omega), stepr n2 k w f (by omega)]
        split
        · exact ih (k + 1) n1 n2 _ _ (by omega) (by omega) (by omega)
        · exact ih (k + 1) n1 n2 _ _ (by omega) (by omega) (by omega)
    obtain ⟨n, hn⟩ : ∃ n, bo_fuel = n + 1 := ⟨bo_fuel - 1, by have := bo_fuel_le; omega⟩
    have hn2 : 2900 ≤ n := by have := bo_fuel_le; omega
    have hc := sp_cnt_le (lt (nI 1)) G
    obtain ⟨r, k1, k2⟩ := key 15 2 n n (nI 1) (nI (sp_cnt (lt (nI 1)) G)) (by omega) (by omega) (by omega)
    have c1 : mX10_best_L51 σ1 p bo_fuel 1 7 1 = some r := by
      rw [hn, show mX10_best_L51 σ1 p (n + 1) 1 7 1 = _ from stepc n 1 1 7 (by decide), if_neg (show ¬ (7 : Int32) ≤ nI (sp_cnt (lt (nI 1)) G) from nI_ge (b := 7) (by omega) (by decide))]
      exact k1
    have c2 : mX11_best_L37 σ2 p bo_fuel (-1) 100000 1 = some r := by
      rw [hn, show mX11_best_L37 σ2 p (n + 1) (-1) 100000 1 = _ from stepr n 1 (-1) 100000 (by decide), if_neg (show ¬ (100000 : Int32) ≤ nI (sp_cnt (lt (nI 1)) G) from nI_ge (b := 100000) (by omega) (by decide))]
      exact k2
    refine ⟨if p = 0 then r.1 else r.2, σ1, σ2, ?_, ?_, a3⟩
    · rw [a1, Option.bind_some, c1, Option.bind_some]
      split <;> rfl
    · unfold mX11_best
      rw [rf_in (b := 0) (c := 1) (by decide +kernel) (by decide +kernel), if_pos c, Option.bind_some, if_neg (by decide), a4 135 (by omega), if_neg (sp_open_t ho), a2, Option.bind_some, c2, Option.bind_some]
      split <;> rfl
theorem bq_ix {p : Int32} {n : Nat} (hn : n < 2 ^ 31) : (p < 0 ∨ nI n ≤ p) ∨ ∃ k, k < n ∧ p = nI k := by
  rcases pk_ix p hn with h | h | h
  · exact Or.inl (Or.inl h)
  · exact Or.inl (Or.inr h)
  · exact Or.inr h
theorem cl_has {p : Int32} {o : Nat} {v : Int32} {n : Nat} (hn : n < 2 ^ 31) (hv : v = nI n) : (if p < 0 then some (0 : Int32) else if v ≤ p then some 0 else some 1) = some (if 0 ≤ p ∧ p < nI n then 1 else 0) := by
  subst hv
  by_cases h1 : p < 0
  · rw [if_pos h1, if_neg (fun z => bq_nlt.mpr z.1 h1)]
  · rw [if_neg h1]
    by_cases h2 : nI n ≤ p
    · rw [if_pos h2, if_neg (fun z => bq_nle.mpr z.2 h2)]
    · rw [if_neg h2, if_pos ⟨fa_of_nlt h1, fa_of_nle h2⟩]
theorem rf_has {p v : Int32} {n : Nat} (hn : n < 2 ^ 31) (hv : v = nI n) : (mX11_in s (Int32.toInt64 p) 0 (Int32.toInt64 (v - 1))) = some (if 0 ≤ p ∧ p < nI n then 1 else 0) := by
  subst hv
  rw [rf_in (b := 0) (c := nI n - 1) (by decide +kernel) rfl]
  congr 1
  have e : (0 ≤ p ∧ p ≤ nI n - 1) ↔ (0 ≤ p ∧ p < nI n) := by
    rw [fa_le, fa_le, fa_lt, nI_toInt hn]
    have : (nI n - 1).toInt = (n : Int) - 1 := by
      cases n with
      | zero => decide
      | succ n => rw [nI_pred, nI_toInt (by omega)]; omega
    rw [this]
    omega
  by_cases c : 0 ≤ p ∧ p < nI n
  · rw [if_pos c, if_pos (e.mpr c)]
  · rw [if_neg c, if_neg (fun z => c (e.mp z))]
theorem st_alone (h : in_all σ) (p : Int32) : ∃ r σ1 σ2, mX10_alone σ p = some (r, σ1) ∧ mX11_alone σ1 p = some (r, σ2) ∧ in_all σ2 := by
  obtain ⟨D, G, S, X, g, hH, hN, hR⟩ := id h
  have h6 := hH.1.nG.2
  have e1 : mX4_hasGoer σ (bo_inn (σ 0 9)) p = some (if 0 ≤ p ∧ p < nI G then 1 else 0) := by
    unfold mX4_hasGoer
    exact cl_has (o := 0) (by omega) hH.2.1.nG
  have e2 : ∀ s : bo_M, s 135 = σ 135 → mX11_isGoer s p = some (if 0 ≤ p ∧ p < nI G then 1 else 0) := by
    intro s hs
    unfold mX11_isGoer
    rw [rf_has (n := G) (by omega) (by rw [hs]; exact hH.1.nG.1)]
    rfl
  unfold mX10_alone
  rw [e1, Option.bind_some]
  by_cases c : 0 ≤ p ∧ p < nI G
  · rw [if_pos c, if_neg (by decide)]
    obtain ⟨d, rfl, hd⟩ : ∃ d, p = nI d ∧ d < G := by
      rcases bq_ix (p := p) (n := G) (by omega) with (z | z) | ⟨d, hd, e⟩
      · exact absurd z (bq_nlt.mpr c.1)
      · exact absurd z (bq_nle.mpr c.2)
      · exact ⟨d, e, hd⟩
    obtain ⟨σ1, σ2, a1, a2, a3, a4, lt, b1, b2, b3⟩ := tr_late hH hN hR
    have f0 : nI 0 = nI (sp_set (fun j => decide (1 ≤ j) && !lt (nI j) d) 1) := by rw [sp_set_f (by simp)]; rfl
    have q1 : mX10_alone_L35 σ1 (nI d) bo_fuel 0 1 = some (nI (sp_set (fun j => decide (1 ≤ j) && !lt (nI j) d) 17)) := by
      obtain ⟨b, hb, hq⟩ := bq_inv (fun n a k => mX10_alone_L35 σ1 (nI d) n a (nI k)) 17 (fun k a => 1 ≤ k ∧ a = nI (sp_set (fun j => decide (1 ≤ j) && !lt (nI j) d) k)) (fun r => r = nI (sp_set (fun j => decide (1 ≤ j) && !lt (nI j) d) 17)) (by
        intro n k a hk ⟨hk1, ha⟩
        subst ha
        by_cases hk17 : k = 17
        · subst hk17
          exact Or.inl ⟨_, by simp only [mX10_alone_L35]; rw [if_pos (show (16 : Int32) < nI 17 from nI_lt (a := 16) (by decide) (by decide))], rfl⟩
        · refine Or.inr ⟨by omega, _, ⟨by omega, rfl⟩, ?_⟩
          simp only [mX10_alone_L35, mX10_bit]
          rw [if_neg (show ¬ (16 : Int32) < nI k from nI_nlt (a := 16) (by omega) (by decide)), b1, Option.bind_some, Option.bind_some, bq_bit (Nat.lt_trans (sp_set_127 (by omega)) (by decide)) (by omega), sp_set_bit, bq_one_shl (by omega), fa_or, nI_1]
          cases hc : lt (nI k) d with
          | true => rw [if_neg (by simp [hd]; decide), Option.bind_some, sp_set_f (by simp [hc])]
          | false => rw [if_pos (by simp [nI_0]), Option.bind_some, sp_set_t (by simp [hc, hk1])]) bo_fuel 1 (nI 0) (by decide) (bq_fuel (by omega)) ⟨Nat.le_refl _, f0⟩
      rw [nI_0] at hb
      rw [show mX10_alone_L35 σ1 (nI d) bo_fuel 0 1 = some b from hb, hq]
    have q2 : mX11_alone_L20 σ2 (nI d) bo_fuel 0 1 = some (nI (sp_set (fun j => decide (1 ≤ j) && !lt (nI j) d) 17)) := by
      obtain ⟨b, hb, hq⟩ := bq_inv (fun n a k => mX11_alone_L20 σ2 (nI d) n a (nI k)) 17 (fun k a => 1 ≤ k ∧ a = nI (sp_set (fun j => decide (1 ≤ j) && !lt (nI j) d) k)) (fun r => r = nI (sp_set (fun j => decide (1 ≤ j) && !lt (nI j) d) 17)) (by
        intro n k a hk ⟨hk1, ha⟩
        subst ha
        by_cases hk17 : k = 17
        · subst hk17
          exact Or.inl ⟨_, by simp only [mX11_alone_L20]; rw [if_pos (show (16 : Int32) < nI 17 from nI_lt (a := 16) (by decide) (by decide))], rfl⟩
        · refine Or.inr ⟨by omega, _, ⟨by omega, rfl⟩, ?_⟩
          simp only [mX11_alone_L20]
          rw [if_neg (show ¬ (16 : Int32) < nI k from nI_nlt (a := 16) (by omega) (by decide)), b3 (nI k) d hd, Option.bind_some, bq_one_shl (by omega), nI_1]
          cases hc : lt (nI k) d with
          | true => rw [if_neg (by decide), Option.bind_some, sp_set_f (by simp [hc]), show (0 : Int32) = nI 0 from rfl, fa_or, Nat.or_zero]
          | false => rw [if_pos (by decide), Option.bind_some, sp_set_t (by simp [hc, hk1]), fa_or]) bo_fuel 1 (nI 0) (by decide) (bq_fuel (by omega)) ⟨Nat.le_refl _, f0⟩
      rw [nI_0] at hb
      rw [show mX11_alone_L20 σ2 (nI d) bo_fuel 0 1 = some b from hb, hq]
    refine ⟨_, σ1, σ2, by rw [a1, Option.bind_some, q1, Option.bind_some], ?_, a3⟩
    unfold mX11_alone
    rw [e2 σ1 (a4 135 (by omega)), if_pos c, Option.bind_some, if_neg (by decide), a2, Option.bind_some, q2, Option.bind_some]
  · rw [if_neg c, if_pos rfl]
    refine ⟨_, σ, σ, rfl, ?_, h⟩
    unfold mX11_alone
    rw [e2 σ rfl, if_neg c, Option.bind_some, if_pos rfl]
theorem sp_set_or (b c : Nat → Bool) (n : Nat) : sp_set b n ||| sp_set c n = sp_set (fun k => b k || c k) n := by
  apply Nat.eq_of_testBit_eq
  intro k
  rw [Nat.testBit_or, sp_set_bit, sp_set_bit, sp_set_bit]
  by_cases h : k < n <;> simp [h]
theorem cl_signalsOf {i : Nat} (hI : sp_inn s i N D G S X) (hE : sp_env N D G S X) (v : Int32) : mX4_signalsOf s i v = some (nI (sp_set (fun k => decide (N 143 k = v)) S)) := by
  have h5 := hE.nS.2
  unfold mX4_signalsOf
  obtain ⟨b, hb, hq⟩ := bq_inv (fun n a k => mX4_signalsOf_L4 s i v n a (nI k)) S (fun k a => a = nI (sp_set (fun k => decide (N 143 k = v)) k)) (fun r => r = nI (sp_set (fun k => decide (N 143 k = v)) S)) (by
    intro n k a hk ha
    subst ha
    by_cases h : k = S
    · subst h
      exact Or.inl ⟨_, by simp only [mX4_signalsOf_L4, hI.nS]; rw [if_pos (Int32.le_refl _)], rfl⟩
    · have hlt : k < S := by omega
      refine Or.inr ⟨hlt, _, rfl, ?_⟩
      simp only [mX4_signalsOf_L4, hI.nS]
      rw [if_neg (nI_ge hlt (by omega)), bq_at (by omega) (by decide), Option.bind_some, hI.si k hlt, bq_one_shl (by omega), fa_or, nI_1]
      by_cases c : N 143 k = v
      · rw [if_pos c, Option.bind_some, sp_set_t (by simp [c])]
      · rw [if_neg c, Option.bind_some, sp_set_f (by simp [c])]) bo_fuel 0 (nI 0) (Nat.zero_le _) (bq_fuel (by omega)) rfl
  rw [← nI_0, show mX4_signalsOf_L4 s i v bo_fuel (nI 0) (nI 0) = some b from hb, hq]
  rfl
theorem st_given (h : in_all σ) (p : Int32) : ∃ r σ1 σ2, mX10_given σ p = some (r, σ1) ∧ mX11_given σ1 p = some (r, σ2) ∧ in_all σ2 := by
  obtain ⟨D, G, S, X, g, hH, hN, hR⟩ := id h
  have h5 := hH.1.nS.2
  refine pre_WW (fm := fun s => mX11_given s p) h (1 ≤ p ∧ p ≤ 192) (by unfold mX10_given; rw [cl_rng, cl_preW hH]) (fun c => ?_) (fun c ho => ?_) (fun c ho => ?_)
  · unfold mX11_given
    rw [rf_in (b := 1) (c := 192) (by decide +kernel) (by decide +kernel), if_neg c]; rfl
  · unfold mX11_given
    rw [rf_in (b := 1) (c := 192) (by decide +kernel) (by decide +kernel), if_pos c, Option.bind_some, if_neg (by decide), if_pos (sp_open_f ho)]
  · obtain ⟨m, rfl, -, hm⟩ := bq_rng (a := 1) (b := 192) c.1 c.2 (by decide) (by decide)
    obtain ⟨σ1, σ2, a1, a2, a3, a4, a5, a6, a7, a8⟩ := tr_both hH hN hR (n := m) (by omega)
    have hI : sp_inn σ1 (bo_inn (σ1 0 9)) σ D G S X := by
      rw [a4 0 (by omega)]
      refine hH.2.1.to (fun a z1 z2 => a4 a ?_)
      rcases bo_inn_ok (σ 0 9) with z | z <;> omega
    have hA : sp_ag σ2 σ := sp_ag.rf.to (fun a z1 z2 => by rw [a5 a (by omega), a4 a (by omega)])
    obtain ⟨gv, hgv⟩ : ∃ gv : Nat → Nat → Bool, gv = fun k s => sp_any (fun j => decide (σ 143 s = nI (sp_hd σ D X g (σ 144) j))) k := ⟨_, rfl⟩
    have gs : ∀ k, sp_set (gv (k + 1)) S = sp_set (gv k) S ||| sp_set (fun s => decide (σ 143 s = nI (sp_hd σ D X g (σ 144) k))) S := by
      intro k
      rw [sp_set_or, hgv]
      rfl
    have q1 : mX10_given_L49 σ1 (nI m) bo_fuel 0 0 = some (nI (sp_set (gv m) S)) := by
      obtain ⟨b, hb, hq⟩ := bq_inv (fun n a k => mX10_given_L49 σ1 (nI m) n a (nI k)) m (fun k a => a = nI (sp_set (gv k) S)) (fun r => r = nI (sp_set (gv m) S)) (by
        intro n k a hk ha
        subst ha
        by_cases hkm : k = m
        · subst hkm
          exact Or.inl ⟨_, by simp only [mX10_given_L49]; rw [if_pos (Int32.le_refl _)], rfl⟩
        · have hlt : k < m := by omega
          refine Or.inr ⟨hlt, _, rfl, ?_⟩
          simp only [mX10_given_L49]
          rw [if_neg (nI_ge hlt (by omega)), bq_at (by omega) (by decide), Option.bind_some, a6 k hlt, cl_signalsOf hI hH.1, Option.bind_some, fa_or, nI_1, gs]) bo_fuel 0 (nI 0) (Nat.zero_le _) (bq_fuel (by omega)) (by rw [sp_set_none (fun s => by rw [hgv]; rfl)])
      rw [← nI_0, show mX10_given_L49 σ1 (nI m) bo_fuel (nI 0) (nI 0) = some b from hb, hq]
    have hS2 : σ2 135 14 = nI S := by rw [hA.1 14 (by decide)]; exact hH.1.nS.1
    have q3 : ∀ (k W : Nat), k < m → mX11_given_L42 σ2 (nI m) (nI k) bo_fuel (nI W) 0 = some (nI (W ||| sp_set (fun s => decide (σ 143 s = nI (sp_hd σ D X g (σ 144) k))) S)) := by
      intro k W hkm
      obtain ⟨b, hb, hq⟩ := bq_inv (fun n a j => mX11_given_L42 σ2 (nI m) (nI k) n a (nI j)) S (fun j a => a = nI (W ||| sp_set (fun s => decide (σ 143 s = nI (sp_hd σ D X g (σ 144) k))) j)) (fun r => r = nI (W ||| sp_set (fun s => decide (σ 143 s = nI (sp_hd σ D X g (σ 144) k))) S)) (by
        intro n j a hj ha
        subst ha
        by_cases hjS : j = S
        · subst hjS
          exact Or.inl ⟨_, by simp only [mX11_given_L42, hS2]; rw [if_pos (Int32.le_refl _)], rfl⟩
        · have hlt : j < S := by omega
          refine Or.inr ⟨hlt, _, rfl, ?_⟩
          simp only [mX11_given_L42, hS2]
          rw [if_neg (nI_ge hlt (by omega)), bq_ld (by omega) (by decide), Option.bind_some, (a7 k (by omega)).1, bq_ld (by omega) (by decide), Option.bind_some, hA.2 143 (by decide) (by decide), bq_one_shl (by omega), nI_1]
          by_cases cc : nI (sp_hd σ D X g (σ 144) k) = σ 143 j
          · rw [if_pos cc, Option.bind_some, fa_or, sp_set_t (by simp [cc]), Nat.or_assoc]
          · rw [if_neg cc, Option.bind_some, sp_set_f (by simp [Ne.symm cc]), show (0 : Int32) = nI 0 from rfl, fa_or, Nat.or_zero]) bo_fuel 0 (nI W) (Nat.zero_le _) (bq_fuel (by omega)) (by show nI W = nI (W ||| 0); rw [Nat.or_zero])
      rw [nI_0] at hb
      rw [show mX11_given_L42 σ2 (nI m) (nI k) bo_fuel (nI W) 0 = some b from hb, hq]
    have q2 : mX11_given_L34 σ2 (nI m) bo_fuel 0 0 = some (nI (sp_set (gv m) S)) := by
      obtain ⟨b, hb, hq⟩ := bq_inv (fun n a k => mX11_given_L34 σ2 (nI m) n a (nI k)) m (fun k a => a = nI (sp_set (gv k) S)) (fun r => r = nI (sp_set (gv m) S)) (by
        intro n k a hk ha
        subst ha
        by_cases hkm : k = m
        · subst hkm
          exact Or.inl ⟨_, by simp only [mX11_given_L34]; rw [if_pos (Int32.le_refl _)], rfl⟩
        · have hlt : k < m := by omega
          refine Or.inr ⟨hlt, _, rfl, ?_⟩
          simp only [mX11_given_L34]
          rw [if_neg (nI_ge hlt (by omega)), q3 k _ hlt, Option.bind_some, nI_1, gs]) bo_fuel 0 (nI 0) (Nat.zero_le _) (bq_fuel (by omega)) (by rw [sp_set_none (fun s => by rw [hgv]; rfl)])
      rw [← nI_0, show mX11_given_L34 σ2 (nI m) bo_fuel (nI 0) (nI 0) = some b from hb, hq]
    refine ⟨_, σ1, σ2, by rw [a1, Option.bind_some, q1, Option.bind_some], ?_, a3⟩
    unfold mX11_given
    rw [rf_in (b := 1) (c := 192) (by decide +kernel) (by decide +kernel), if_pos c, Option.bind_some, if_neg (by decide), a4 135 (by omega), if_neg (sp_open_t ho), a2, Option.bind_some, q2, Option.bind_some]
end LAT
