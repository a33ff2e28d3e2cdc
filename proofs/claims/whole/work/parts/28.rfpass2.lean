section RFQ
variable {σ N : bo_M} {D G S X g B : Nat} {V : Nat → Int32}
/-- a store in the row 'now' -/
theorem bq_up144 {σ : bo_M} {i : Nat} {v : Int32} (j : Nat) : bo_up σ 144 i v 144 j = if j = i then v else σ 144 j := by
  rw [bq_up]
  by_cases h : j = i <;> simp [h]
theorem sp_ag.to {σ' : bo_M} (h : sp_ag σ N) (hs : ∀ a, 135 ≤ a → a ≤ 143 → σ' a = σ a) : sp_ag σ' N :=
  ⟨fun b hb => by rw [hs 135 (by decide) (by decide)]; exact h.1 b hb, fun a h1 h2 b => by rw [hs a (by omega) h2]; exact h.2 a h1 h2 b⟩
theorem rf_stk {σ : bo_M} {i : Nat} {v : Int32} (hi : i < 107) : bo_st 107 σ 144 (nI i) v = some (bo_up σ 144 i v) := bq_st hi (by decide)
theorem rf_log {h r : Int32} (hL : σ 144 26 = nI (min g 40)) : ∃ σ', mX11_log σ h r = some σ' ∧ (∀ a, a ≠ 144 → σ' a = σ a) ∧
    ∀ j, σ' 144 j = if j = 26 then nI (min (g + 1) 40) else if 27 ≤ j ∧ j < 67 then (if 40 ≤ g then (if j = 66 then h else σ 144 (j + 1)) else if j = 27 + g then h else σ 144 j)
      else if 67 ≤ j ∧ j < 107 then (if 40 ≤ g then (if j = 106 then r else σ 144 (j + 1)) else if j = 67 + g then r else σ 144 j) else σ 144 j := by
  unfold mX11_log
  rw [show bo_ld 107 σ 144 26 = some (σ 144 26) from rf_ldk 26 (by decide), Option.bind_some, hL]
  by_cases hg : 40 ≤ g
  · rw [show min g 40 = 40 by omega, if_pos (show nI 40 = 40 from rfl)]
    obtain ⟨s, hs, hq⟩ := bq_inv (fun m s k => mX11_log_L14 h r m (nI k) s) 40 (fun k s => 1 ≤ k ∧ s = fun a j => if a = 144 ∧ ((27 ≤ j ∧ j < 27 + (k - 1)) ∨ (67 ≤ j ∧ j < 67 + (k - 1))) then σ 144 (j + 1) else σ a j)
      (fun s => s = fun a j => if a = 144 ∧ ((27 ≤ j ∧ j < 66) ∨ (67 ≤ j ∧ j < 106)) then σ 144 (j + 1) else σ a j) (by
      intro m k s hk ⟨hk1, hs⟩
      by_cases hk4 : k = 40
      · subst hk4
        exact Or.inl ⟨_, by simp only [mX11_log_L14]; rw [if_pos (show (40 : Int32) ≤ nI 40 from Int32.le_refl _)], hs⟩
      · have hlt : k < 40 := by omega
        have hsv : ∀ a j, s a j = if a = 144 ∧ ((27 ≤ j ∧ j < 27 + (k - 1)) ∨ (67 ≤ j ∧ j < 67 + (k - 1))) then σ 144 (j + 1) else σ a j := fun a j => by rw [hs]
        have f1 : s 144 (27 + k) = σ 144 (27 + k) := by rw [hsv, if_neg (by omega)]
        have f2 : s 144 (67 + k) = σ 144 (67 + k) := by rw [hsv, if_neg (by omega)]
        refine Or.inr ⟨hlt, bo_up (bo_up s 144 (27 + k - 1) (σ 144 (27 + k))) 144 (67 + k - 1) (σ 144 (67 + k)), ⟨by omega, ?_⟩, ?_⟩
        · funext a j
          rw [bq_up, bq_up, hsv]
          by_cases ha : a = 144
          · subst ha
            by_cases e1 : j = 67 + k - 1
            · rw [if_pos ⟨rfl, e1⟩, show 67 + k = j + 1 by omega]
              exact (if_pos (by omega)).symm
            · rw [if_neg (by omega)]
              by_cases e2 : j = 27 + k - 1
              · rw [if_pos ⟨rfl, e2⟩, show 27 + k = j + 1 by omega]
                exact (if_pos (by omega)).symm
              · rw [if_neg (by omega)]
                by_cases e3 : (27 ≤ j ∧ j < 27 + (k - 1)) ∨ (67 ≤ j ∧ j < 67 + (k - 1))
                · rw [if_pos ⟨rfl, e3⟩]
                  exact (if_pos (by omega)).symm
                · rw [if_neg (fun z => e3 z.2)]
                  exact (if_neg (by omega)).symm
          · rw [if_neg (fun z => ha z.1), if_neg (fun z => ha z.1), if_neg (fun z => ha z.1)]
            exact (if_neg (fun z => ha z.1)).symm
        · simp only [mX11_log_L14]
          rw [if_neg (show ¬ (40 : Int32) ≤ nI k from nI_ge hlt (by decide)), show (27 : Int32) + nI k = nI (27 + k) from nI_add 27 k, show (67 : Int32) + nI k = nI (67 + k) from nI_add 67 k, rf_ldk _ (by omega), Option.bind_some,
            show nI (27 + k) - 1 = nI (27 + k - 1) from pk_sub (b := 1) (by omega), rf_stk (by omega), Option.bind_some, rf_ldk _ (by omega), Option.bind_some,
            show nI (67 + k) - 1 = nI (67 + k - 1) from pk_sub (b := 1) (by omega), rf_stk (by omega), Option.bind_some, nI_1, bq_up144, if_neg (by omega), f1, f2]) bo_fuel 1 σ (by decide) (bq_fuel (by omega)) ⟨Nat.le_refl _, by
        funext a j
        exact (if_neg (by omega)).symm⟩
    have hqv : ∀ a j, s a j = if a = 144 ∧ ((27 ≤ j ∧ j < 66) ∨ (67 ≤ j ∧ j < 106)) then σ 144 (j + 1) else σ a j := fun a j => by rw [hq]
    have s26 : s 144 26 = nI 40 := by rw [hqv, if_neg (by omega), hL]; congr 1; omega
    rw [show mX11_log_L14 h r bo_fuel 1 σ = some s from hs, Option.bind_some, show bo_ld 107 s 144 26 = some (s 144 26) from rf_ldk 26 (by decide), Option.bind_some, s26, show nI 40 - 1 = nI 39 by decide,
      show bo_st 107 s 144 26 (nI 39) = some (bo_up s 144 26 (nI 39)) from rf_stk (i := 26) (by decide), Option.bind_some, Option.bind_some]
    generalize hu : bo_up s 144 26 (nI 39) = u
    have u26 : u 144 26 = nI 39 := by rw [← hu, bq_up144, if_pos rfl]
    rw [show bo_ld 107 u 144 26 = some (u 144 26) from rf_ldk 26 (by decide), Option.bind_some, u26, show (27 : Int32) + nI 39 = nI 66 by decide, rf_stk (by decide), Option.bind_some,
      show bo_ld 107 (bo_up u 144 66 h) 144 26 = some (bo_up u 144 66 h 144 26) from rf_ldk 26 (by decide), Option.bind_some, bq_up144, if_neg (by decide), u26, show (67 : Int32) + nI 39 = nI 106 by decide, rf_stk (by decide), Option.bind_some,
      show bo_ld 107 (bo_up (bo_up u 144 66 h) 144 106 r) 144 26 = some (bo_up (bo_up u 144 66 h) 144 106 r 144 26) from rf_ldk 26 (by decide), Option.bind_some, bq_up144, if_neg (by decide), bq_up144, if_neg (by decide), u26, show nI 39 + 1 = nI 40 by decide,
      show bo_st 107 (bo_up (bo_up u 144 66 h) 144 106 r) 144 26 (nI 40) = some (bo_up (bo_up (bo_up u 144 66 h) 144 106 r) 144 26 (nI 40)) from rf_stk (i := 26) (by decide), Option.bind_some]
    refine ⟨_, rfl, fun a ha => ?_, fun j => ?_⟩
    · rw [bq_up_o ha, bq_up_o ha, bq_up_o ha, ← hu, bq_up_o ha]
      funext b
      rw [hqv, if_neg (fun z => ha z.1)]
    · rw [bq_up144, bq_up144, bq_up144, ← hu, bq_up144, hqv, if_pos hg, if_pos hg]
      repeat' split
      all_goals first | rfl | (exfalso; omega) | (congr 1; omega)
  · rw [show min g 40 = g by omega, if_neg (show ¬ nI g = 40 from fun z => by have := (nI_eq (b := 40) (by omega) (by decide)).mp z; omega), Option.bind_some, show bo_ld 107 σ 144 26 = some (σ 144 26) from rf_ldk 26 (by decide), Option.bind_some, hL, show min g 40 = g by omega,
      show (27 : Int32) + nI g = nI (27 + g) from nI_add 27 g, rf_stk (by omega), Option.bind_some,
      show bo_ld 107 (bo_up σ 144 (27 + g) h) 144 26 = some (bo_up σ 144 (27 + g) h 144 26) from rf_ldk 26 (by decide), Option.bind_some, bq_up144, if_neg (by omega), hL, show min g 40 = g by omega,
      show (67 : Int32) + nI g = nI (67 + g) from nI_add 67 g, rf_stk (by omega), Option.bind_some,
      show bo_ld 107 (bo_up (bo_up σ 144 (27 + g) h) 144 (67 + g) r) 144 26 = some (bo_up (bo_up σ 144 (27 + g) h) 144 (67 + g) r 144 26) from rf_ldk 26 (by decide), Option.bind_some, bq_up144, if_neg (by omega), bq_up144, if_neg (by omega), hL, show min g 40 = g by omega, nI_1,
      show bo_st 107 (bo_up (bo_up σ 144 (27 + g) h) 144 (67 + g) r) 144 26 (nI (g + 1)) = some (bo_up (bo_up (bo_up σ 144 (27 + g) h) 144 (67 + g) r) 144 26 (nI (g + 1))) from rf_stk (i := 26) (by decide), Option.bind_some]
    refine ⟨_, rfl, fun a ha => ?_, fun j => ?_⟩
    · rw [bq_up_o ha, bq_up_o ha, bq_up_o ha]
    · rw [bq_up144, bq_up144, bq_up144, if_neg hg, if_neg hg]
      repeat' split
      all_goals first | rfl | (exfalso; omega) | (congr 1; omega)
theorem rf_pass (hA : sp_ag σ N) (hE : sp_env N D G S X) (hW : sp_wf D B (σ 144) g) (hB : B ≤ 1000000) :
    ∃ σ', mX11_pass σ = some (nI (sp_heard N X (σ 144) g (sp_cnt (sp_ring N (σ 144)) D)), σ') ∧ (∀ a, a ≠ 144 → σ' a = σ a) ∧ σ' 144 = sp_pass N D X g (σ 144) := by
  have h7 := hE.nD.2
  have hg := hW.ng.1
  have hgB := hW.ng.2
  have hr := sp_cnt_le (sp_ring N (σ 144)) D
  obtain ⟨V, hV⟩ : ∃ V : Nat → Int32, V = σ 144 := ⟨_, rfl⟩
  rw [← hV] at hW hg hr ⊢
  have hh := sp_heard_le (N := N) (D := D) (G := G) (S := S) (X := X) (V := V) (g := g) hE (r := sp_cnt (sp_ring N V) D)
  unfold mX11_pass
  rw [rf_first, Option.bind_some, ← hV]
  obtain ⟨b, hb, hq⟩ := bq_inv (fun m (p : Int32 × bo_M) k => mX11_pass_L9 (if sp_first V then 1 else 0) m p.1 (nI k) p.2) D
    (fun k p => p.1 = nI (sp_cnt (sp_ring N V) k) ∧ p.2 = fun a j => if a = 144 ∧ 7 ≤ j ∧ j < 7 + k then (if sp_first V then 0 else V j) + (if sp_ring N V (j - 7) then 1 else 0) else σ a j)
    (fun p => p.1 = nI (sp_cnt (sp_ring N V) D) ∧ p.2 = fun a j => if a = 144 ∧ 7 ≤ j ∧ j < 7 + D then (if sp_first V then 0 else V j) + (if sp_ring N V (j - 7) then 1 else 0) else σ a j) (by
    intro m k p hk ⟨hp1, hp2⟩
    obtain ⟨c, s⟩ := p
    simp only [] at hp1 hp2
    have hsv : ∀ a j, s a j = if a = 144 ∧ 7 ≤ j ∧ j < 7 + k then (if sp_first V then 0 else V j) + (if sp_ring N V (j - 7) then 1 else 0) else σ a j := fun a j => by rw [hp2]
    have hso : ∀ a, a ≠ 144 → s a = σ a := by
      intro a ha
      funext j
      rw [hsv, if_neg (fun z => ha z.1)]
    have hs4 : s 135 4 = nI D := by rw [hso 135 (by decide), hA.1 4 (by decide)]; exact hE.nD.1
    have hsA : sp_ag s N := hA.to (fun a h1 h2 => hso a (by omega))
    by_cases hkD : k = D
    · subst hkD
      exact Or.inl ⟨_, by simp only [mX11_pass_L9]; rw [hs4, if_pos (Int32.le_refl _)], hp1, hp2⟩
    · have hlt : k < D := by omega
      have f0 : ∀ j, (j < 7 ∨ 7 + k ≤ j) → s 144 j = V j := by
        intro j hj
        rw [hsv, if_neg (by omega), hV]
      have hring : sp_ring N (s 144) k = sp_ring N V k := sp_ring_cong (f0 k (by omega)) (f0 (7 + k) (by omega)) (f0 (14 + k) (by omega)) (f0 21 (by omega))
      refine Or.inr ⟨hlt, (nI (sp_cnt (sp_ring N V) (k + 1)), bo_up (bo_up s 144 (7 + k) (if sp_first V then 0 else V (7 + k))) 144 (7 + k) ((if sp_first V then 0 else V (7 + k)) + (if sp_ring N V k then 1 else 0))), ⟨rfl, ?_⟩, ?_⟩
      · funext a j
        show bo_up (bo_up s 144 (7 + k) _) 144 (7 + k) _ a j = _
        rw [bq_up, bq_up, hsv]
        by_cases ha : a = 144
        · subst ha
          by_cases e : j = 7 + k
          · subst e
            rw [if_pos ⟨rfl, rfl⟩, if_pos (show (144 : Nat) = 144 ∧ 7 ≤ 7 + k ∧ 7 + k < 7 + (k + 1) by omega), show 7 + k - 7 = k by omega]
          · rw [if_neg (fun z => e z.2), if_neg (fun z => e z.2)]
            by_cases e2 : 7 ≤ j ∧ j < 7 + k
            · rw [if_pos ⟨rfl, e2⟩]
              exact (if_pos (show (144 : Nat) = 144 ∧ 7 ≤ j ∧ j < 7 + (k + 1) by omega)).symm
            · rw [if_neg (fun z => e2 z.2)]
              exact (if_neg (show ¬ ((144 : Nat) = 144 ∧ 7 ≤ j ∧ j < 7 + (k + 1)) by omega)).symm
        · rw [if_neg (fun z => ha z.1), if_neg (fun z => ha z.1), if_neg (fun z => ha z.1)]
          exact (if_neg (fun z => ha z.1)).symm
      · simp only [mX11_pass_L9]
        rw [hs4, if_neg (nI_ge hlt (by omega)), rf_ring hsA hE hlt, Option.bind_some, hring]
        have g1 : (if (if sp_first V then (1 : Int32) else 0) = 0 then (bo_ld 107 s 144 (7 + nI k)).bind fun v4 => some v4 else some 0) = some (if sp_first V then 0 else V (7 + k)) := by
          rw [rf_ld7 (by omega), Option.bind_some, f0 (7 + k) (by omega)]
          cases sp_first V <;> simp
        rw [g1, Option.bind_some, show (7 : Int32) + nI k = nI (7 + k) from nI_add 7 k, rf_stk (by omega), Option.bind_some, rf_ldk _ (by omega), Option.bind_some, bq_up144, if_pos rfl]
        have g2 : (if (if sp_ring N V k then (1 : Int32) else 0) = 0 then some (0 : Int32) else some 1) = some (if sp_ring N V k then 1 else 0) := by cases sp_ring N V k <;> rfl
        rw [g2, Option.bind_some, rf_stk (by omega), Option.bind_some, Option.bind_some, nI_1, hp1]
        congr 1
        cases hc : sp_ring N V k with
        | true => rw [sp_cnt_t hc]; exact nI_1 _
        | false => rw [sp_cnt_f hc]; exact Int32.add_zero _) bo_fuel 0 (0, σ) (Nat.zero_le _) (bq_fuel (by omega)) ⟨rfl, by
      funext a j
      exact (if_neg (by omega)).symm⟩
  obtain ⟨c, s⟩ := b
  simp only [] at hq
  obtain ⟨hq1, hq2⟩ := hq
  rw [show mX11_pass_L9 (if sp_first V then 1 else 0) bo_fuel 0 0 σ = some (c, s) from by rw [← nI_0]; rw [← nI_0] at hb; exact hb, Option.bind_some]
  simp only []
  subst hq1
  generalize hrr : sp_cnt (sp_ring N V) D = r at *
  have hso : ∀ a, a ≠ 144 → s a = σ a := by
    intro a ha
    funext j
    rw [hq2]
    exact if_neg (fun z => ha z.1)
  have hsj : ∀ j, s 144 j = if 7 ≤ j ∧ j < 7 + D then (if sp_first V then 0 else V j) + (if sp_ring N V (j - 7) then 1 else 0) else V j := by
    intro j
    rw [hq2, hV]
    simp
  rw [show bo_ld 107 s 144 24 = some (s 144 24) from rf_ldk 24 (by decide), Option.bind_some, show bo_st 107 s 144 24 (s 144 24 + nI r) = some (bo_up s 144 24 (s 144 24 + nI r)) from rf_stk (i := 24) (by decide), Option.bind_some]
  generalize hu : bo_up s 144 24 (s 144 24 + nI r) = u
  have huo : ∀ a, a ≠ 144 → u a = σ a := fun a ha => by rw [← hu, bq_up_o ha, hso a ha]
  have huj : ∀ j, u 144 j = if j = 24 then V 24 + nI r else s 144 j := by
    intro j
    have h24 : s 144 24 = V 24 := by rw [hsj, if_neg (by omega)]
    rw [← hu, bq_up144, h24]
  have hu2 : ∀ j, 14 ≤ j → j ≠ 24 → u 144 j = V j := by
    intro j h1 h2
    rw [huj, if_neg h2, hsj, if_neg (by omega)]
  have hheard : sp_heard N X (u 144) g r = sp_heard N X V g r := by
    unfold sp_heard sp_wet sp_cov
    rw [hu2 25 (by decide) (by decide), hu2 21 (by decide) (by decide), hu2 23 (by decide) (by decide)]
  rw [rf_heard (hA.to (fun a h1 h2 => huo a (by omega))) hE (by rw [hu2 25 (by decide) (by decide)]; exact hW.rain) (by rw [hu2 21 (by decide) (by decide)]; exact hg) (by omega) (by omega), Option.bind_some, hheard]
  generalize hhh : sp_heard N X V g r = h at *
  obtain ⟨w, hw, hwo, hwj⟩ := rf_log (σ := u) (g := g) (h := nI h) (r := nI r) (by rw [hu2 26 (by decide) (by decide)]; exact hW.L)
  rw [hw, Option.bind_some]
  have hw2 : ∀ j, 14 ≤ j → j < 26 → j ≠ 24 → w 144 j = V j := by
    intro j h1 h2 h3
    rw [hwj, if_neg (by omega), if_neg (by omega), if_neg (by omega)]
    exact hu2 j h1 h3
  obtain ⟨hn, hhn, -, hhn2⟩ := hW.hung
  have hbell : (if nI h ≤ 0 then (bo_ld 107 w 144 22).bind fun v16 => some v16 else (bo_ld 107 w 144 22).bind fun v17 => some (bo_irm (v17 + 1) 12)) = some (if h = 0 then V 22 else bo_irm (V 22 + 1) 12) := by
    rw [show bo_ld 107 w 144 22 = some (w 144 22) from rf_ldk 22 (by decide), Option.bind_some, Option.bind_some, hw2 22 (by decide) (by decide) (by decide)]
    by_cases h0 : h = 0
    · subst h0
      rw [if_pos (show nI 0 ≤ 0 from Int32.le_refl _), if_pos rfl]
    · rw [if_neg (nI_nle (by omega) (by omega)), if_neg h0]
  rw [hbell, Option.bind_some, show bo_st 107 w 144 22 (if h = 0 then V 22 else bo_irm (V 22 + 1) 12) = some (bo_up w 144 22 (if h = 0 then V 22 else bo_irm (V 22 + 1) 12)) from rf_stk (i := 22) (by decide), Option.bind_some]
  generalize hy : bo_up w 144 22 (if h = 0 then V 22 else bo_irm (V 22 + 1) 12) = y
  have y23 : y 144 23 = nI hn := by rw [← hy, bq_up144, if_neg (by decide), hw2 23 (by decide) (by decide) (by decide), hhn]
  have hhu : (if nI hn ≤ 0 then some (0 : Int32) else some 1) = some (if hn = 0 then 0 else 1) := by
    by_cases h0 : hn = 0
    · subst h0
      rw [if_pos (show nI 0 ≤ 0 from Int32.le_refl _), if_pos rfl]
    · rw [if_neg (nI_nle (by omega) (by omega)), if_neg h0]
  have hhu2 : nI hn - (if hn = 0 then 0 else 1) = nI (hn - 1) := by
    by_cases h0 : hn = 0
    · subst h0; decide
    · rw [if_neg h0]
      exact pk_sub (b := 1) (by omega)
  rw [show bo_ld 107 y 144 23 = some (y 144 23) from rf_ldk 23 (by decide), Option.bind_some, Option.bind_some, y23, hhu, Option.bind_some, hhu2, show bo_st 107 y 144 23 (nI (hn - 1)) = some (bo_up y 144 23 (nI (hn - 1))) from rf_stk (i := 23) (by decide), Option.bind_some]
  generalize hx : bo_up y 144 23 (nI (hn - 1)) = x'
  have x21 : x' 144 21 = nI g := by rw [← hx, bq_up144, if_neg (by decide), ← hy, bq_up144, if_neg (by decide), hw2 21 (by decide) (by decide) (by decide), hg]
  rw [show bo_ld 107 x' 144 21 = some (x' 144 21) from rf_ldk 21 (by decide), Option.bind_some, x21, nI_1, show bo_st 107 x' 144 21 (nI (g + 1)) = some (bo_up x' 144 21 (nI (g + 1))) from rf_stk (i := 21) (by decide), Option.bind_some]
  refine ⟨_, rfl, fun a ha => ?_, ?_⟩
  · rw [bq_up_o ha, ← hx, bq_up_o ha, ← hy, bq_up_o ha, hwo a ha, huo a ha]
  · funext j
    rw [bq_up144, ← hx, bq_up144, ← hy, bq_up144, hwj]
    by_cases j7 : j < 7
    · rw [if_neg (by omega), if_neg (by omega), if_neg (by omega), if_neg (by omega), if_neg (by omega), if_neg (by omega), sp_pass_in j7, huj, if_neg (by omega), hsj, if_neg (by omega)]
    · by_cases j14 : j < 14
      · obtain ⟨d, rfl⟩ : ∃ d, j = 7 + d := ⟨j - 7, by omega⟩
        rw [if_neg (by omega), if_neg (by omega), if_neg (by omega), if_neg (by omega), if_neg (by omega), if_neg (by omega), sp_pass_pt (by omega), huj, if_neg (by omega), hsj, show 7 + d - 7 = d by omega]
        by_cases hd : d < D
        · rw [if_pos (by omega), if_pos hd]
        · rw [if_neg (by omega), if_neg hd]
      · by_cases j21 : j < 21
        · obtain ⟨d, rfl⟩ : ∃ d, j = 14 + d := ⟨j - 14, by omega⟩
          rw [if_neg (by omega), if_neg (by omega), if_neg (by omega), if_neg (by omega), if_neg (by omega), if_neg (by omega), sp_pass_tn (by omega)]
          exact hu2 _ (by omega) (by omega)
        · by_cases e21 : j = 21
          · rw [if_pos e21, e21, sp_pass_21]
          · rw [if_neg e21]
            by_cases e23 : j = 23
            · rw [if_pos e23, e23, sp_pass_23, hhn, nI_clamp (by omega)]
            · rw [if_neg e23]
              by_cases e22 : j = 22
              · rw [if_pos e22, e22, sp_pass_22, hrr, hhh]
              · rw [if_neg e22]
                by_cases e26 : j = 26
                · rw [if_pos e26, e26, sp_pass_26]
                · rw [if_neg e26]
                  by_cases e24 : j = 24
                  · rw [e24, if_neg (by omega), if_neg (by omega), huj, if_pos rfl, sp_pass_24, hrr]
                  · by_cases e25 : j = 25
                    · rw [e25, if_neg (by omega), if_neg (by omega), hu2 25 (by decide) (by decide), sp_pass_25]
                    · by_cases j67 : j < 67
                      · obtain ⟨k, rfl⟩ : ∃ k, j = 27 + k := ⟨j - 27, by omega⟩
                        rw [if_pos (by omega), sp_pass_he (by omega), hrr, hhh]
                        by_cases h40 : 40 ≤ g
                        · rw [if_pos h40, if_pos h40]
                          by_cases k9 : k = 39
                          · rw [if_pos k9, if_pos (by omega)]
                          · rw [if_neg k9, if_neg (by omega)]
                            exact hu2 _ (by omega) (by omega)
                        · rw [if_neg h40, if_neg h40]
                          by_cases kg : k = g
                          · rw [if_pos kg, if_pos (by omega)]
                          · rw [if_neg kg, if_neg (by omega)]
                            exact hu2 _ (by omega) (by omega)
                      · by_cases j107 : j < 107
                        · obtain ⟨k, rfl⟩ : ∃ k, j = 67 + k := ⟨j - 67, by omega⟩
                          rw [if_neg (by omega), if_pos (by omega), sp_pass_ru (by omega), hrr]
                          by_cases h40 : 40 ≤ g
                          · rw [if_pos h40, if_pos h40]
                            by_cases k9 : k = 39
                            · rw [if_pos k9, if_pos (by omega)]
                            · rw [if_neg k9, if_neg (by omega)]
                              exact hu2 _ (by omega) (by omega)
                          · rw [if_neg h40, if_neg h40]
                            by_cases kg : k = g
                            · rw [if_pos kg, if_pos (by omega)]
                            · rw [if_neg kg, if_neg (by omega)]
                              exact hu2 _ (by omega) (by omega)
                        · rw [if_neg (by omega), if_neg (by omega), hu2 j (by omega) (by omega)]
                          unfold sp_pass
                          rw [if_neg (by omega), if_neg (by omega), if_neg (by omega), if_neg (by omega), if_neg (by omega), if_neg (by omega), if_neg (by omega), if_neg (by omega), if_neg (by omega), if_neg (by omega), if_neg (by omega)]
end RFQ
