/-! the class: a QUARTER goes by -/
section CLP
variable {σ : bo_M} {N : bo_M} {e i D G S X g B : Nat} {V : Nat → Int32}
theorem cl_pass (hI : sp_inn σ i N D G S X) (hE : sp_env N D G S X) (hR : sp_rep σ e D V g) (hW : sp_wf D B V g) (hB : B ≤ 1000000) (hei : i + 7 < e ∨ e + 4 < i) :
    ∃ σ', mX2_pass σ e i = some (nI (sp_heard N X V g (sp_cnt (sp_ring N V) D)), σ') ∧ (∀ a, (a < e ∨ e + 4 < a) → σ' a = σ a) ∧ sp_rep σ' e D (sp_pass N D X g V) (g + 1) := by
  have h7 := hE.nD.2
  have hg := hW.ng.1
  have hgB := hW.ng.2
  have hr := sp_cnt_le (sp_ring N V) D
  have hh := sp_heard_le (N := N) (D := D) (G := G) (S := S) (X := X) (V := V) (g := g) hE (r := sp_cnt (sp_ring N V) D)
  unfold mX2_pass
  rw [cl_thirsty hI hE hR, Option.bind_some, bq_popset h7, Option.bind_some, cl_heardOf hI hE hR hg (by omega) (by omega), Option.bind_some, cl_first hR.gone, Option.bind_some]
  generalize hrr : sp_cnt (sp_ring N V) D = r at *
  generalize hhh : sp_heard N X V g r = h at *
  obtain ⟨s1, hs1⟩ : ∃ s1 : bo_M, s1 = fun a b => if a = e + 1 ∧ b < 7 ∧ sp_first V = true then 0 else σ a b := ⟨_, rfl⟩
  have hz : (if (if sp_first V then (1 : Int32) else 0) = 0 then some σ else (mX8_zero σ 7 (e + 1)).bind fun σ6 => some σ6) = some s1 := by
    cases hf : sp_first V with
    | true =>
      rw [if_neg (by decide), bq_zero (by decide), Option.bind_some, hs1]
      congr 1
      funext a b
      simp [hf]
    | false =>
      rw [if_pos (by decide), hs1]
      congr 1
      funext a b
      simp [hf]
  rw [hz, Option.bind_some]
  have hs1o : ∀ a, a ≠ e + 1 → s1 a = σ a := by
    intro a ha
    subst hs1
    funext b
    simp [ha]
  have hs1p : ∀ d, d < 7 → s1 (e + 1) d = if sp_first V then 0 else V (7 + d) := by
    intro d hd
    subst hs1
    by_cases hf : sp_first V = true
    · simp [hf, hd]
    · simp [hf, (hR.dr d hd).1]
  obtain ⟨s2, hs2, hq⟩ := bq_inv (fun m s k => mX2_pass_L36 e i (nI (sp_set (sp_ring N V) D)) (nI r) (nI h) m (nI k) s) D (fun k s => s = fun a b => if a = e + 1 ∧ b < k then s1 (e + 1) b + (if sp_ring N V b then 1 else 0) else s1 a b) (fun s => s = fun a b => if a = e + 1 ∧ b < D then s1 (e + 1) b + (if sp_ring N V b then 1 else 0) else s1 a b) (by
    intro m k s hk hs
    have hsi : s i 11 = nI D := by
      subst hs
      have : i ≠ e + 1 := by omega
      simp [this, hs1o i this, hI.nD]
    by_cases hkD : k = D
    · subst hkD
      exact Or.inl ⟨_, by simp only [mX2_pass_L36]; rw [hsi, if_pos (Int32.le_refl _)], hs⟩
    · have hlt : k < D := by omega
      have hsk : s (e + 1) k = s1 (e + 1) k := by subst hs; simp
      refine Or.inr ⟨hlt, bo_up s (e + 1) k (s1 (e + 1) k + (if sp_ring N V k then 1 else 0)), ?_, ?_⟩
      · subst hs
        funext a b
        rw [bq_up]
        by_cases h1 : a = e + 1
        · subst h1
          by_cases h2 : b = k
          · subst h2; simp
          · by_cases h3 : b < k
            · have : b < k + 1 := by omega
              simp [h2, h3, this]
            · have : ¬ b < k + 1 := by omega
              simp [h2, h3, this]
        · simp [h1]
      · simp only [mX2_pass_L36, mX10_bit]
        rw [hsi, if_neg (nI_ge hlt (by omega)), bq_at (by omega) (by decide), Option.bind_some, Option.bind_some, bq_bit (Nat.lt_trans (sp_set_127 h7) (by decide)) (by omega), sp_set_bit, hsk, bq_put (by omega) (by decide), Option.bind_some, nI_1]
        congr 2
        cases sp_ring N V k <;> simp [hlt, nI_0] <;> rfl) bo_fuel 0 s1 (Nat.zero_le _) (bq_fuel (by omega)) (by funext a b; simp)
  have hs2' : mX2_pass_L36 e i (nI (sp_set (sp_ring N V) D)) (nI r) (nI h) bo_fuel 0 s1 = some s2 := by rw [← nI_0]; exact hs2
  rw [hs2', Option.bind_some, Option.bind_some]
  have hs2o : ∀ a, a ≠ e + 1 → s2 a = σ a := by
    intro a ha
    rw [hq, ← hs1o a ha]
    funext b
    simp [ha]
  have hs2p : ∀ d, d < 7 → s2 (e + 1) d = sp_pass N D X g V (7 + d) := by
    intro d hd
    rw [sp_pass_pt hd, hq]
    by_cases hdD : d < D
    · simp [hdD, hs1p d hd]
    · simp only [hdD, and_false, if_false]
      rw [hs1p d hd]
      split
      · exact (hW.no d (by omega) hd).symm
      · rfl
  have hse : s2 e = σ e := hs2o e (by omega)
  have q1 : bo_up s2 e 8 (s2 e 8 + nI r) e 4 = nI g := by rw [bq_up, if_neg (by omega), hse, hR.gone, hg]
  rw [q1, show bo_irm (nI g) 40 = nI (g % 40) from bq_irm (by omega) (by decide) (by decide), bq_put (Nat.mod_lt _ (by decide)) (by decide), Option.bind_some]
  have q2 : bo_up (bo_up s2 e 8 (s2 e 8 + nI r)) (e + 3) (g % 40) (nI h) e 4 = nI g := by rw [bq_up, if_neg (by omega), q1]
  rw [q2, show bo_irm (nI g) 40 = nI (g % 40) from bq_irm (by omega) (by decide) (by decide), bq_put (Nat.mod_lt _ (by decide)) (by decide), Option.bind_some]
  generalize hs3 : bo_up (bo_up (bo_up s2 e 8 (s2 e 8 + nI r)) (e + 3) (g % 40) (nI h)) (e + 4) (g % 40) (nI r) = s3
  have s3e : ∀ b, s3 e b = if b = 8 then V 24 + nI r else σ e b := by
    intro b
    rw [← hs3, bq_up, if_neg (by omega), bq_up, if_neg (by omega), bq_up, hse]
    by_cases hb : b = 8
    · rw [if_pos ⟨rfl, hb⟩, if_pos hb, hR.paid]
    · rw [if_neg (fun z => hb z.2), if_neg hb]
  have s3o : ∀ a, a ≠ e → a ≠ e + 3 → a ≠ e + 4 → s3 a = s2 a := by
    intro a h1 h2 h3
    rw [← hs3, bq_up_o h3, bq_up_o h2, bq_up_o h1]
  have s33 : ∀ b, s3 (e + 3) b = if b = g % 40 then nI h else σ (e + 3) b := by
    intro b
    rw [← hs3, bq_up, if_neg (by omega), bq_up, bq_up_o (by omega), hs2o (e + 3) (by omega)]
    by_cases hb : b = g % 40
    · rw [if_pos ⟨rfl, hb⟩, if_pos hb]
    · rw [if_neg (fun z => hb z.2), if_neg hb]
  have s34 : ∀ b, s3 (e + 4) b = if b = g % 40 then nI r else σ (e + 4) b := by
    intro b
    rw [← hs3, bq_up, bq_up_o (by omega), bq_up_o (by omega), hs2o (e + 4) (by omega)]
    by_cases hb : b = g % 40
    · rw [if_pos ⟨rfl, hb⟩, if_pos hb]
    · rw [if_neg (fun z => hb z.2), if_neg hb]
  have hbell : (if nI h < 1 then some s3 else (some (bo_up s3 e 6 (bo_irm (s3 e 6 + 1) 12))).bind fun σ15 => some σ15) = some (bo_up s3 e 6 (if h = 0 then V 22 else bo_irm (V 22 + 1) 12)) := by
    have q6 : s3 e 6 = V 22 := by rw [s3e, if_neg (by decide), hR.bell]
    by_cases h0 : h = 0
    · subst h0
      rw [if_pos (show nI 0 < 1 from nI_lt (b := 1) (by decide) (by decide)), if_pos rfl, ← q6, bq_up_self]
    · rw [if_neg (show ¬ nI h < 1 from nI_nlt (b := 1) (by omega) (by omega)), if_neg h0, q6]
      rfl
  rw [hbell, Option.bind_some, Option.bind_some, Option.bind_some]
  refine ⟨_, rfl, fun a ha => ?_, ?_⟩
  · rw [bq_up_o (by omega), bq_up_o (by omega), bq_up_o (by omega), s3o a (by omega) (by omega) (by omega), hs2o a (by omega)]
  · obtain ⟨u, hu, -, hu2⟩ := hW.hung
    have q4 : bo_up (bo_up s3 e 6 (if h = 0 then V 22 else bo_irm (V 22 + 1) 12)) e 7 (if 0 < bo_up s3 e 6 (if h = 0 then V 22 else bo_irm (V 22 + 1) 12) e 7 - 1 then bo_up s3 e 6 (if h = 0 then V 22 else bo_irm (V 22 + 1) 12) e 7 - 1 else 0) e 4 = nI g := by
      rw [bq_up, if_neg (by omega), bq_up, if_neg (by omega), s3e, if_neg (by decide), hR.gone, hg]
    have q7 : bo_up s3 e 6 (if h = 0 then V 22 else bo_irm (V 22 + 1) 12) e 7 = nI u := by
      rw [bq_up, if_neg (by omega), s3e, if_neg (by decide), hR.hung, hu]
    rw [q4, q7, show (if 0 < nI u - 1 then nI u - 1 else 0) = nI (u - 1) from bq_mon (t := 1) (by omega) (by decide)]
    refine ⟨?_, ?_, ?_, ?_, ?_, ?_, fun d hd => ⟨?_, ?_⟩, fun k hk => ?_⟩
    · rw [bq_up, if_pos ⟨rfl, rfl⟩, sp_pass_21, nI_1]
    · rw [bq_up, if_neg (by omega), bq_up, if_neg (by omega), bq_up, if_neg (by omega), s3e, if_neg (by decide), hR.ins]
      congr 1
      exact sp_set_cong (fun d hd => by rw [sp_pass_in (by omega)])
    · rw [bq_up, if_neg (by omega), bq_up, if_neg (by omega), bq_up, if_pos ⟨rfl, rfl⟩, sp_pass_22, hrr, hhh]
    · rw [bq_up, if_neg (by omega), bq_up, if_pos ⟨rfl, rfl⟩, sp_pass_23, hu, nI_clamp (by omega)]
    · rw [bq_up, if_neg (by omega), bq_up, if_neg (by omega), bq_up, if_neg (by omega), s3e, if_pos rfl, sp_pass_24, hrr]
    · rw [bq_up, if_neg (by omega), bq_up, if_neg (by omega), bq_up, if_neg (by omega), s3e, if_neg (by decide), hR.rain, sp_pass_25]
    · rw [bq_up_o (by omega), bq_up_o (by omega), bq_up_o (by omega), s3o _ (by omega) (by omega) (by omega)]
      exact hs2p d hd
    · rw [bq_up_o (by omega), bq_up_o (by omega), bq_up_o (by omega), s3o _ (by omega) (by omega) (by omega), hs2o _ (by omega), (hR.dr d hd).2, sp_pass_tn hd]
    · rw [bq_up_o (by omega), bq_up_o (by omega), bq_up_o (by omega), bq_up_o (by omega), bq_up_o (by omega), bq_up_o (by omega), s33, s34, sp_pass_he (by omega), sp_pass_ru (by omega), hrr, hhh]
      by_cases h40 : 40 ≤ g
      · rw [if_pos h40, if_pos h40]
        by_cases hk9 : k = 39
        · rw [if_pos (by omega), if_pos hk9, if_pos (by omega), if_pos hk9]
          exact ⟨rfl, rfl⟩
        · rw [if_neg (by omega), if_neg hk9, if_neg (by omega), if_neg hk9]
          have := hR.lg (k + 1) (by omega)
          rw [show g + 1 - min (g + 1) 40 + k = g - min g 40 + (k + 1) by omega]
          exact this
      · rw [if_neg h40, if_neg h40]
        by_cases hkg : k = g
        · rw [if_pos (by omega), if_pos hkg, if_pos (by omega), if_pos hkg]
          exact ⟨rfl, rfl⟩
        · rw [if_neg (by omega), if_neg hkg, if_neg (by omega), if_neg hkg]
          have := hR.lg k (by omega)
          rw [show g + 1 - min (g + 1) 40 + k = g - min g 40 + k by omega]
          exact this
end CLP
