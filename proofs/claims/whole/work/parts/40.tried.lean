/-! strikes, when, hour, noon, late, best, alone, given, ship -/
section TRD
variable {σ : bo_M} {D G S X g : Nat}
theorem pre_WW {fm : bo_M → Option (Int32 × bo_M)} {fx A : Option (Int32 × bo_M)} (h : in_all σ) (c : Prop) [Decidable c] (hx : fx = if c then (if sp_open σ then A else some (-1000000003, σ)) else some (-1000000002, σ))
    (hm1 : ¬ c → fm σ = some (-1000000002, σ)) (hm2 : c → sp_open σ = false → fm σ = some (-1000000003, σ)) (main : c → sp_open σ = true → ∃ r σ1 σ2, A = some (r, σ1) ∧ fm σ1 = some (r, σ2) ∧ in_all σ2) :
    ∃ r σ1 σ2, fx = some (r, σ1) ∧ fm σ1 = some (r, σ2) ∧ in_all σ2 := by
  by_cases hc : c
  · cases ho : sp_open σ with
    | true =>
      obtain ⟨r, σ1, σ2, a, b, d⟩ := main hc ho
      exact ⟨r, σ1, σ2, by rw [hx, if_pos hc, ho]; exact a, b, d⟩
    | false => exact ⟨_, σ, σ, by rw [hx, if_pos hc, ho]; rfl, hm2 hc ho, h⟩
  · exact ⟨_, σ, σ, by rw [hx, if_neg hc], hm1 hc, h⟩
theorem cl_preW (hH : in_house σ D G S X) (c : Prop) [Decidable c] {A : Option (Int32 × bo_M)} : ((some (if c then (0 : Int32) else 1)).bind fun a1 => (mX10_refused σ a1).bind fun v2 => if v2 = 0 then A else some (v2, σ)) = if c then (if sp_open σ then A else some (-1000000003, σ)) else some (-1000000002, σ) := by
  rw [Option.bind_some, cl_refused hH c, Option.bind_some]
  by_cases hc : c
  · rw [if_pos hc, if_pos hc]
    cases sp_open σ
    · rw [if_neg (by decide)]; rfl
    · rw [if_pos (by decide)]; rfl
  · rw [if_neg hc, if_neg (by decide), if_neg hc]
theorem tr_both (hH : in_house σ D G S X) (hN : in_now σ D g) (hR : in_rest σ D) {n : Nat} (hn : n ≤ 192) :
    ∃ σ1 σ2, mX9_run σ (bo_inn (σ 0 9)) 50 (nI n) = some σ1 ∧ mX11_lookAhead σ1 = some σ2 ∧ in_all σ2 ∧ (∀ a, (a < 18 ∨ 23 < a) → σ1 a = σ a) ∧ (∀ a, (a < 156 ∨ 158 < a) → σ2 a = σ1 a) ∧
      (∀ k, k < n → σ1 23 k = nI (sp_hd σ D X g (σ 144) k)) ∧ (∀ k, k < 192 → σ2 157 k = nI (sp_hd σ D X g (σ 144) k) ∧ σ2 158 k = sp_seq σ D X g (σ 144) (k + 1) 22) ∧ σ1 18 6 = sp_seq σ D X g (σ 144) n 22 := by
  obtain ⟨σ1, h1, h2, h3, h4⟩ := cl_run (bo_inn_ok (σ 0 9)) hH.2.1 hH.1 hN.2 hN.1 (by decide) hn
  have e144 : σ1 144 = σ 144 := h2 144 (by omega)
  obtain ⟨σ2, g1, g2, g3⟩ := rf_look (σ := σ1) (N := σ) (sp_ag.rf.to (fun a z1 z2 => h2 a (by omega))) hH.1 (by rw [e144]; exact hN.1) (by decide)
  rw [e144] at g3
  refine ⟨σ1, σ2, h1, g1, ?_, h2, g2, h4, g3, h3.bell⟩
  refine in_all.scr ⟨D, G, S, X, g, hH, hN, hR⟩ (fun a b hs => ?_)
  have q1 : ¬ (18 ≤ a ∧ a ≤ 23) := fun z => hs (Or.inl z)
  have q2 : ¬ (156 ≤ a ∧ a ≤ 158) := fun z => hs (by unfold in_scr; omega)
  rw [g2 a (by omega), h2 a (by omega)]
theorem sp_hd_lt (hH : in_house σ D G S X) (k : Nat) {V : Nat → Int32} : sp_hd σ D X g V k ≤ 8 := sp_hd_le hH.1 k
theorem st_strikes (h : in_all σ) (p : Int32) : ∃ r σ1 σ2, mX10_strikes σ p = some (r, σ1) ∧ mX11_strikes σ1 p = some (r, σ2) ∧ in_all σ2 := by
  obtain ⟨D, G, S, X, g, hH, hN, hR⟩ := id h
  have e0 : (p < 192) = (p ≤ 191) := propext ⟨fun z => by
    have a := (fa_lt _ _).mp z
    rw [fa_le]
    have e1 : (192 : Int32).toInt = 192 := by decide
    have e2 : (191 : Int32).toInt = 191 := by decide
    omega, fun z => by
    have a := (fa_le _ _).mp z
    rw [fa_lt]
    have e1 : (192 : Int32).toInt = 192 := by decide
    have e2 : (191 : Int32).toInt = 191 := by decide
    omega⟩
  refine pre_WW (fm := fun s => mX11_strikes s p) h (0 ≤ p ∧ p ≤ 191) (by unfold mX10_strikes; simp only [e0]; rw [cl_rng, cl_preW hH]) (fun c => ?_) (fun c ho => ?_) (fun c ho => ?_)
  · unfold mX11_strikes
    rw [rf_in (b := 0) (c := 191) (by decide +kernel) (by decide +kernel), if_neg c]; rfl
  · unfold mX11_strikes
    rw [rf_in (b := 0) (c := 191) (by decide +kernel) (by decide +kernel), if_pos c, Option.bind_some, if_neg (by decide), if_pos (sp_open_f ho)]
  · obtain ⟨k, rfl, -, hk⟩ := bq_rng (a := 0) (b := 191) c.1 c.2 (by decide) (by decide)
    obtain ⟨σ1, σ2, a1, a2, a3, a4, a5, a6, a7, a8⟩ := tr_both hH hN hR (n := k + 1) (by omega)
    refine ⟨nI (sp_hd σ D X g (σ 144) k), σ1, σ2, ?_, ?_, a3⟩
    · rw [nI_1, a1, Option.bind_some, bq_at (by omega) (by decide), Option.bind_some, a6 k (by omega)]
    · unfold mX11_strikes
      rw [rf_in (b := 0) (c := 191) (by decide +kernel) (by decide +kernel), if_pos c, Option.bind_some, if_neg (by decide), a4 135 (by omega), if_neg (sp_open_t ho), a2, Option.bind_some, bq_ld (by omega) (by decide), Option.bind_some, (a7 k (by omega)).1]
theorem st_when (h : in_all σ) (p : Int32) : ∃ r σ1 σ2, mX10_when σ p = some (r, σ1) ∧ mX11_when σ1 p = some (r, σ2) ∧ in_all σ2 := by
  obtain ⟨D, G, S, X, g, hH, hN, hR⟩ := id h
  refine pre_WW (fm := fun s => mX11_when s p) h (1 ≤ p ∧ p ≤ 16) (by unfold mX10_when; rw [cl_rng, cl_preW hH]) (fun c => ?_) (fun c ho => ?_) (fun c ho => ?_)
  · unfold mX11_when
    rw [rf_in (b := 1) (c := 16) (by decide +kernel) (by decide +kernel), if_neg c]; rfl
  · unfold mX11_when
    rw [rf_in (b := 1) (c := 16) (by decide +kernel) (by decide +kernel), if_pos c, Option.bind_some, if_neg (by decide), if_pos (sp_open_f ho)]
  · obtain ⟨σ1, σ2, a1, a2, a3, a4, a5, a6, a7, a8⟩ := tr_both hH hN hR (n := 192) (by omega)
    refine ⟨sp_fh (fun k => nI (sp_hd σ D X g (σ 144) k)) p 192 0, σ1, σ2, ?_, ?_, a3⟩
    · rw [show mX9_run σ (bo_inn (σ 0 9)) 50 192 = some σ1 from a1, Option.bind_some, show mX9_firstHeard σ1 p 192 = _ from cl_first_heard (q := 192) (by decide), Option.bind_some, sp_fh_cong (h := fun k => nI (sp_hd σ D X g (σ 144) k)) 192 0 (fun a _ z => a6 a (by omega))]
    · unfold mX11_when
      rw [rf_in (b := 1) (c := 16) (by decide +kernel) (by decide +kernel), if_pos c, Option.bind_some, if_neg (by decide), a4 135 (by omega), if_neg (sp_open_t ho), a2, Option.bind_some, show mX11_firstHeard σ2 p 192 = _ from rf_first_heard (q := 192) (by decide), Option.bind_some, sp_fh_cong (h := fun k => nI (sp_hd σ D X g (σ 144) k)) 192 0 (fun a _ z => (a7 a (by omega)).1)]
theorem st_hour (h : in_all σ) (p : Int32) : ∃ r σ1 σ2, mX10_hour σ p = some (r, σ1) ∧ mX11_hour σ1 p = some (r, σ2) ∧ in_all σ2 := by
  obtain ⟨D, G, S, X, g, hH, hN, hR⟩ := id h
  refine pre_WW (fm := fun s => mX11_hour s p) h (0 ≤ p ∧ p ≤ 192) (by unfold mX10_hour; rw [cl_rng, cl_preW hH]) (fun c => ?_) (fun c ho => ?_) (fun c ho => ?_)
  · unfold mX11_hour
    rw [rf_in (b := 0) (c := 192) (by decide +kernel) (by decide +kernel), if_neg c]; rfl
  · unfold mX11_hour
    rw [rf_in (b := 0) (c := 192) (by decide +kernel) (by decide +kernel), if_pos c, Option.bind_some, if_neg (by decide), if_pos (sp_open_f ho)]
  · obtain ⟨k, rfl, -, hk⟩ := bq_rng (a := 0) (b := 192) c.1 c.2 (by decide) (by decide)
    obtain ⟨σ1, σ2, a1, a2, a3, a4, a5, a6, a7, a8⟩ := tr_both hH hN hR (n := k) (by omega)
    refine ⟨sp_seq σ D X g (σ 144) k 22, σ1, σ2, ?_, ?_, a3⟩
    · rw [a1, Option.bind_some, a8]
    · unfold mX11_hour
      rw [rf_in (b := 0) (c := 192) (by decide +kernel) (by decide +kernel), if_pos c, Option.bind_some, if_neg (by decide), a4 135 (by omega), if_neg (sp_open_t ho), a2, Option.bind_some]
      cases k with
      | zero =>
        rw [if_pos nI_0, show bo_ld 107 σ2 144 22 = some (σ2 144 22) from rf_ldk 22 (by decide), Option.bind_some, a5 144 (by omega), a4 144 (by omega)]
        rfl
      | succ k =>
        rw [if_neg (nI_ne0 (by omega) (by omega)), nI_pred, bq_ld (by omega) (by decide), Option.bind_some, (a7 k (by omega)).2]
theorem st_noon (h : in_all σ) : ∃ r σ1 σ2, mX10_noon σ = some (r, σ1) ∧ mX11_noon σ1 = some (r, σ2) ∧ in_all σ2 := by
  obtain ⟨D, G, S, X, g, hH, hN, hR⟩ := id h
  unfold mX10_noon
  rw [hH.2.1.open_]
  cases ho : sp_open σ with
  | false => exact ⟨_, σ, σ, by rw [if_pos (sp_open_f ho)], by unfold mX11_noon; rw [if_pos (sp_open_f ho)], h⟩
  | true =>
    rw [if_neg (sp_open_t ho)]
    obtain ⟨σ1, σ2, a1, a2, a3, a4, a5, a6, a7, a8⟩ := tr_both hH hN hR (n := 192) (by omega)
    have key : ∀ (m j b n1 n2 : Nat), j + m = 192 → m < n1 → m < n2 → b ≤ 11 → sp_seq σ D X g (σ 144) j 22 = nI b → ∃ r, mX10_noon_L41 σ1 n1 (nI b) (nI j) = some (r, σ1) ∧ mX11_noon_L17 σ2 n2 (nI j) = some (r, σ2) := by
      intro m
      induction m with
      | zero =>
        intro j b n1 n2 hj h1 h2 hb hs
        obtain ⟨n1, rfl⟩ : ∃ q, n1 = q + 1 := ⟨n1 - 1, by omega⟩
        obtain ⟨n2, rfl⟩ : ∃ q, n2 = q + 1 := ⟨n2 - 1, by omega⟩
        refine ⟨-1, ?_, ?_⟩
        · simp only [mX10_noon_L41]; rw [if_pos (show (192 : Int32) ≤ nI j from nI_le (a := 192) (by omega) (by omega))]
        · simp only [mX11_noon_L17]; rw [if_pos (show (192 : Int32) ≤ nI j from nI_le (a := 192) (by omega) (by omega))]
      | succ m ih =>
        intro j b n1 n2 hj h1 h2 hb hs
        obtain ⟨n1, rfl⟩ : ∃ q, n1 = q + 1 := ⟨n1 - 1, by omega⟩
        obtain ⟨n2, rfl⟩ : ∃ q, n2 = q + 1 := ⟨n2 - 1, by omega⟩
        have hj2 : j < 192 := by omega
        have e8 := sp_hd_lt (g := g) (V := σ 144) hH j
        have en : sp_seq σ D X g (σ 144) (j + 1) 22 = if sp_hd σ D X g (σ 144) j = 0 then nI b else nI ((b + 1) % 12) := by
          show sp_pass σ D X (g + j) (sp_seq σ D X g (σ 144) j) 22 = _
          rw [sp_pass_22, hs, nI_1, show bo_irm (nI (b + 1)) 12 = nI ((b + 1) % 12) from bq_irm (by omega) (by decide) (by decide)]
          rfl
        simp only [mX10_noon_L41, mX11_noon_L17]
        rw [if_neg (show ¬ (192 : Int32) ≤ nI j from nI_ge (b := 192) hj2 (by decide)), if_neg (show ¬ (192 : Int32) ≤ nI j from nI_ge (b := 192) hj2 (by decide)), bq_at hj2 (by decide), Option.bind_some, a6 j hj2, bq_ld hj2 (by decide), Option.bind_some, (a7 j hj2).1, bq_ld hj2 (by decide), Option.bind_some, (a7 j hj2).2, en]
        by_cases h0 : sp_hd σ D X g (σ 144) j = 0
        · rw [h0, if_pos (show nI 0 < 1 from nI_lt (b := 1) (by decide) (by decide)), Option.bind_some, if_neg (show ¬ nI b = 12 from fun z => by have := (nI_eq (b := 12) (by omega) (by decide)).mp z; omega), if_pos (show nI 0 ≤ 0 from Int32.le_refl _), nI_1]
          exact ih (j + 1) b n1 n2 (by omega) (by omega) (by omega) hb (by rw [en, if_pos h0])
        · rw [if_neg (show ¬ nI (sp_hd σ D X g (σ 144) j) < 1 from nI_nlt (b := 1) (by omega) (by omega)), Option.bind_some, nI_1, if_neg (nI_nle (by omega) (by omega)), if_neg h0, nI_1]
          by_cases hb12 : b = 11
          · subst hb12
            exact ⟨nI (j + 1), by rw [if_pos (show nI (11 + 1) = 12 from rfl)], by rw [if_pos (show nI ((11 + 1) % 12) = 0 from rfl)]⟩
          · rw [if_neg (show ¬ nI (b + 1) = 12 from fun z => by have := (nI_eq (b := 12) (by omega) (by decide)).mp z; omega), if_neg (nI_ne0 (by omega) (by omega))]
            exact ih (j + 1) (b + 1) n1 n2 (by omega) (by omega) (by omega) (by omega) (by rw [en, if_neg h0, Nat.mod_eq_of_lt (by omega)])
    obtain ⟨b, hb, -, hb2⟩ := hN.1.bell
    obtain ⟨r, k1, k2⟩ := key 192 0 b bo_fuel bo_fuel (by omega) (bq_fuel (by omega)) (bq_fuel (by omega)) hb2 hb
    refine ⟨r, σ1, σ2, ?_, ?_, a3⟩
    · rw [show mX9_run σ (bo_inn (σ 0 9)) 50 192 = some σ1 from a1, Option.bind_some, show σ1 50 6 = nI b by rw [a4 50 (by omega), hN.2.bell, hb]]
      rw [nI_0] at k1
      exact k1
    · unfold mX11_noon
      rw [a4 135 (by omega), if_neg (sp_open_t ho), a2, Option.bind_some]
      rw [nI_0] at k2
      exact k2
theorem st_ship (h : in_all σ) (p : Int32) : ∃ r σ1 σ2, mX10_ship σ p = some (r, σ1) ∧ mX11_ship σ1 p = some (r, σ2) ∧ in_all σ2 := by
  obtain ⟨D, G, S, X, g, hH, hN, hR⟩ := id h
  refine pre_WW (fm := fun s => mX11_ship s p) h (1 ≤ p ∧ p ≤ 99) (by unfold mX10_ship; rw [cl_rng, cl_preW hH]) (fun c => ?_) (fun c ho => ?_) (fun c ho => ?_)
  · unfold mX11_ship
    rw [rf_in (b := 1) (c := 99) (by decide +kernel) (by decide +kernel), if_neg c]; rfl
  · unfold mX11_ship
    rw [rf_in (b := 1) (c := 99) (by decide +kernel) (by decide +kernel), if_pos c, Option.bind_some, if_neg (by decide), if_pos (sp_open_f ho)]
  · obtain ⟨σ1, σ2, a1, a2, a3, a4, a5, a6, a7, a8⟩ := tr_both hH hN hR (n := 192) (by omega)
    have key : ∀ (m j n1 n2 : Nat) (w : Int32), j + m = 192 → m < n1 → m < n2 → ∃ r, mX10_ship_L50 σ1 n1 w (nI j) = some (r, σ1) ∧ mX11_ship_L34 σ2 n2 w (nI j) = some (r, σ2) := by
      intro m
      induction m with
      | zero =>
        intro j n1 n2 w hj h1 h2
        obtain ⟨n1, rfl⟩ : ∃ q, n1 = q + 1 := ⟨n1 - 1, by omega⟩
        obtain ⟨n2, rfl⟩ : ∃ q, n2 = q + 1 := ⟨n2 - 1, by omega⟩
        refine ⟨-1, ?_, ?_⟩
        · simp only [mX10_ship_L50]; rw [if_pos (show (192 : Int32) ≤ nI j from nI_le (a := 192) (by omega) (by omega))]
        · simp only [mX11_ship_L34]; rw [if_pos (show (192 : Int32) ≤ nI j from nI_le (a := 192) (by omega) (by omega))]
      | succ m ih =>
        intro j n1 n2 w hj h1 h2
        obtain ⟨n1, rfl⟩ : ∃ q, n1 = q + 1 := ⟨n1 - 1, by omega⟩
        obtain ⟨n2, rfl⟩ : ∃ q, n2 = q + 1 := ⟨n2 - 1, by omega⟩
        have hj2 : j < 192 := by omega
        simp only [mX10_ship_L50, mX11_ship_L34]
        rw [if_neg (show ¬ (192 : Int32) ≤ nI j from nI_ge (b := 192) hj2 (by decide)), if_neg (show ¬ (192 : Int32) ≤ nI j from nI_ge (b := 192) hj2 (by decide)), bq_at hj2 (by decide), Option.bind_some, a6 j hj2, bq_ld hj2 (by decide), Option.bind_some, (a7 j hj2).1, Option.bind_some, Int32.mul_comm 2]
        generalize nI (sp_hd σ D X g (σ 144) j) = v
        have em : w + (-1) = w - 1 := by rw [Int32.sub_eq_add_neg]
        have es : (if w ≤ v * 2 then some (w + (-1)) else if v < 3 then some w else some (w + (-1))) = (if w ≤ v * 2 then some (1 : Int32) else if v < 3 then some 0 else some 1).bind fun a4 => some (w - a4) := by
          rw [em]
          by_cases z1 : w ≤ v * 2
          · rw [if_pos z1, if_pos z1]; rfl
          · rw [if_neg z1, if_neg z1]
            by_cases z2 : v < 3
            · rw [if_pos z2, if_pos z2, Option.bind_some, Int32.sub_zero]
            · rw [if_neg z2, if_neg z2]; rfl
        obtain ⟨t, ht⟩ : ∃ t, (if w ≤ v * 2 then some (1 : Int32) else if v < 3 then some 0 else some 1) = some t := by
          by_cases z1 : w ≤ v * 2
          · rw [if_pos z1]; exact ⟨_, rfl⟩
          · rw [if_neg z1]
            by_cases z2 : v < 3
            · rw [if_pos z2]; exact ⟨_, rfl⟩
            · rw [if_neg z2]; exact ⟨_, rfl⟩
        rw [es, ht, Option.bind_some, Option.bind_some, Option.bind_some, nI_1]
        by_cases hz : w - t = 0
        · rw [if_pos hz, if_pos hz]
          exact ⟨_, rfl, rfl⟩
        · rw [if_neg hz, if_neg hz]
          exact ih (j + 1) n1 n2 (w - t) (by omega) (by omega) (by omega)
    obtain ⟨r, k1, k2⟩ := key 192 0 bo_fuel bo_fuel p (by omega) (bq_fuel (by omega)) (bq_fuel (by omega))
    rw [nI_0] at k1 k2
    refine ⟨r, σ1, σ2, ?_, ?_, a3⟩
    · rw [show mX9_run σ (bo_inn (σ 0 9)) 50 192 = some σ1 from a1, Option.bind_some]
      exact k1
    · unfold mX11_ship
      rw [rf_in (b := 1) (c := 99) (by decide +kernel) (by decide +kernel), if_pos c, Option.bind_some, if_neg (by decide), a4 135 (by omega), if_neg (sp_open_t ho), a2, Option.bind_some]
      exact k2
end TRD
