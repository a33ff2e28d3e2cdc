/-! treat, turn, hang, rain -/
section WRITERS2
variable {σ σ' : bo_M} {D G S X g e B : Nat} {V U : Nat → Int32}
theorem wr_up (hH : in_house σ D G S X) (hN : in_now σ D g) (hR : in_rest σ D) {j : Nat} {v : Int32} (ch : bo_M → bo_M) (hch : ∀ s a b, ¬ (50 ≤ a ∧ a ≤ 54) → ch s a b = s a b)
    (hrep : ∀ s, sp_rep s 50 D (σ 144) g → sp_rep (ch s) 50 D (fun i => if i = j then v else σ 144 i) g) (hwf : sp_wf D 90096 (fun i => if i = j then v else σ 144 i) g) :
    ∃ σ1 σ3, mX6_note σ 50 = some σ1 ∧ (∀ a b, 50 ≤ a → a ≤ 54 → σ1 a b = σ a b) ∧ sp_ag (ch σ1) σ ∧ (∀ b, ch σ1 144 b = σ 144 b) ∧ mX11_remember (ch σ1) = some σ3 ∧ σ3 144 = σ 144 ∧ in_all (bo_up σ3 144 j v) := by
  obtain ⟨σ1, w1, w2, w3⟩ := wr_frame hH hN hR
  obtain ⟨σ3, w4, w5, w6⟩ := w3 (ch σ1) (fun a b z1 z2 => hch σ1 a b z1)
  have r144 : ∀ b, ch σ1 144 b = σ 144 b := fun b => by rw [hch σ1 144 b (by omega), w2 144 b (by omega) (by omega) (by omega)]
  have r3 : σ3 144 = σ 144 := funext fun b => by rw [w5 144 b (by omega) (by omega), r144]
  have V4 : bo_up σ3 144 j v 144 = fun i => if i = j then v else σ 144 i := by rw [bq_row144, r3]
  refine ⟨σ1, σ3, w1, fun a b z1 z2 => w2 a b (by omega) (by omega) (by omega), sp_ag.fr (fun a b z => by rw [hch σ1 a b (by omega), w2 a b (by omega) (by omega) (by omega)]), r144, w4, r3, ?_⟩
  refine w6 _ g (fun a b z1 z2 => by rw [bq_up_o z1]) ⟨?_, ?_⟩ (hR.2.1.fr (fun a b z => ?_))
  · rw [V4]; exact hwf
  · rw [V4]
    refine (hrep σ1 (hN.2.to (fun a z1 z2 => funext fun b => w2 a b (by omega) (by omega) (by omega)))).to (fun a z1 z2 => funext fun b => ?_)
    rw [bq_up_o (by omega), w5 a b (by omega) (by omega)]
  · rw [bq_up_o (by omega), w5 a b (by omega) (by omega), hch σ1 a b (by omega), w2 a b (by omega) (by omega) (by omega)]
theorem bq_at7 (k : Nat) (hk : k < 7) {d : Nat} {v : Int32} {f : Nat → Int32} : (if k = d then v else f k) = if 7 + k = 7 + d then v else f k := by
  by_cases z : k = d
  · rw [if_pos z, if_pos (by omega)]
  · rw [if_neg z, if_neg (by omega)]
theorem st_treat (h : in_all σ) (p q : Int32) : ∃ r σ1 σ2, mX10_treat σ p q = some (r, σ1) ∧ mX11_treat σ1 p q = some (r, σ2) ∧ in_all σ2 := by
  obtain ⟨D, G, S, X, g, hH, hN, hR⟩ := id h
  have h7 := hH.1.nD.2
  unfold mX10_treat
  rw [cl_isDrinker hH, Option.bind_some]
  by_cases c : 0 ≤ p ∧ p < nI D
  · rw [if_pos c, if_neg bq_10]
    obtain ⟨d, rfl, hd⟩ := bq_pick (by omega) c
    by_cases c2 : 1 ≤ q ∧ q ≤ 20
    · rw [if_neg (bq_nlt.mpr c2.1), if_pos c2.2]
      obtain ⟨t, rfl, ht1, ht⟩ := bq_rng (a := 1) (b := 20) c2.1 c2.2 (by decide) (by decide)
      obtain ⟨pn, hp, -, hp2⟩ := (hN.1.dr d (by omega)).2.1
      obtain ⟨σ1, σ3, w1, w2, w3, w4, w5, w6, w7⟩ := wr_up hH hN hR (j := 7 + d) (v := nI (pn - t)) (fun s => bo_up s 51 d (nI (pn - t))) (fun s a b z => bq_up_o (show a ≠ 51 by omega) ▸ rfl) (by
        intro s hs
        refine sp_rep_gen hs (fun a ha => bq_up_o (by omega)) ?_ ?_ ?_ ?_ ?_ ?_ (fun k hk => ⟨?_, ?_⟩) (fun j hj => if_neg (by omega))
        · rw [bq_up_o (by decide), if_neg (by omega)]; exact hs.gone
        · rw [bq_up_o (by decide), hs.ins]
          congr 1
          exact sp_set_cong (fun k hk => by rw [if_neg (by omega)])
        · rw [bq_up_o (by decide), if_neg (by omega)]; exact hs.bell
        · rw [bq_up_o (by decide), if_neg (by omega)]; exact hs.hung
        · rw [bq_up_o (by decide), if_neg (by omega)]; exact hs.paid
        · rw [bq_up_o (by decide), if_neg (by omega)]; exact hs.rain
        · rw [bq_up]
          by_cases z : k = d
          · rw [if_pos ⟨rfl, z⟩, if_pos (by omega)]
          · rw [if_neg (fun y => z y.2), if_neg (by omega)]; exact (hs.dr k hk).1
        · rw [bq_up_o (by decide), if_neg (by omega)]; exact (hs.dr k hk).2) (by
        refine sp_wf_gen hN.1 (fun k hk => ⟨?_, ?_, ?_⟩) (fun k h1 h2 => ?_) (if_neg (by omega)) (if_neg (by omega)) ?_ ?_ ?_ (fun j hj => if_neg (by omega))
        · rw [if_neg (by omega)]; exact (hN.1.dr k hk).1
        · by_cases z : k = d
          · rw [if_pos (by omega)]; exact ⟨pn - t, rfl, by omega, by omega⟩
          · rw [if_neg (by omega)]; exact (hN.1.dr k hk).2.1
        · rw [if_neg (by omega)]; exact (hN.1.dr k hk).2.2
        · rw [if_neg (by omega)]; exact hN.1.no k h1 h2
        · rw [if_neg (by omega)]; exact hN.1.bell
        · rw [if_neg (by omega)]; exact hN.1.hung
        · rw [if_neg (by omega)]; exact hN.1.rain)
      refine ⟨nI (pn - t), bo_up σ1 51 d (nI (pn - t)), _, ?_, ?_, w7⟩
      · rw [w1, Option.bind_some, bq_at (by omega) (by decide), Option.bind_some, w2 51 d (by omega) (by omega), show σ 51 d = σ 144 (7 + d) from (hN.2.dr d (by omega)).1, hp, bq_mon (by omega) (by omega), bq_put (by omega) (by decide), Option.bind_some]
      · unfold mX11_treat
        rw [rf_isDrinker hH.1 w3, if_pos c, Option.bind_some, if_neg bq_10, rf_in (b := 1) (c := 20) (by decide +kernel) (by decide +kernel), Option.bind_some, if_pos c2, if_neg bq_10, w5, Option.bind_some, rf_ld7 (by omega), Option.bind_some, Option.bind_some, w6, hp]
        have e1 : (if nI pn ≤ nI t then some (0 : Int32) else some (nI pn - nI t)) = some (nI (pn - t)) := by
          by_cases z : pn ≤ t
          · rw [if_pos (nI_le z (by omega)), Nat.sub_eq_zero_of_le z, nI_0]
          · rw [if_neg (nI_ge (by omega) (by omega)), pk_sub (by omega)]
        rw [e1, Option.bind_some, show (7 : Int32) + nI d = nI (7 + d) from nI_add 7 d, rf_stk (by omega), Option.bind_some, rf_ldk _ (by omega), Option.bind_some, bq_up_s]
    · refine ⟨-1000000002, σ, σ, ?_, ?_, h⟩
      · by_cases c1 : q < 1
        · rw [if_pos c1]
        · rw [if_neg c1, if_neg (fun z => c2 ⟨bq_nlt.mp c1, z⟩)]
      · unfold mX11_treat
        rw [rf_isDrinker hH.1 sp_ag.rf, if_pos c, Option.bind_some, rf_in (b := 1) (c := 20) (by decide +kernel) (by decide +kernel), Option.bind_some, if_neg bq_10, if_neg c2, if_pos bq_00]
  · rw [if_neg c, if_pos bq_00]
    refine ⟨_, σ, σ, rfl, ?_, h⟩
    unfold mX11_treat
    rw [rf_isDrinker hH.1 sp_ag.rf, if_neg c, Option.bind_some, if_pos bq_00]
theorem st_turn (h : in_all σ) (p q : Int32) : ∃ r σ1 σ2, mX10_turn σ p q = some (r, σ1) ∧ mX11_turn σ1 p q = some (r, σ2) ∧ in_all σ2 := by
  obtain ⟨D, G, S, X, g, hH, hN, hR⟩ := id h
  have h7 := hH.1.nD.2
  unfold mX10_turn
  rw [cl_isDrinker hH, Option.bind_some]
  by_cases c : 0 ≤ p ∧ p < nI D
  · rw [if_pos c, if_neg bq_10]
    obtain ⟨d, rfl, hd⟩ := bq_pick (by omega) c
    by_cases c2 : 0 ≤ q ∧ q ≤ 39
    · rw [if_neg (bq_nlt.mpr c2.1), if_pos c2.2]
      obtain ⟨t, rfl, ht1, ht⟩ := bq_rng (a := 0) (b := 39) c2.1 c2.2 (by decide) (by decide)
      obtain ⟨σ1, σ3, w1, w2, w3, w4, w5, w6, w7⟩ := wr_up hH hN hR (j := 14 + d) (v := nI t) (fun s => bo_up s 52 d (nI t)) (fun s a b z => bq_up_o (show a ≠ 52 by omega) ▸ rfl) (by
        intro s hs
        refine sp_rep_gen hs (fun a ha => bq_up_o (by omega)) ?_ ?_ ?_ ?_ ?_ ?_ (fun k hk => ⟨?_, ?_⟩) (fun j hj => if_neg (by omega))
        · rw [bq_up_o (by decide), if_neg (by omega)]; exact hs.gone
        · rw [bq_up_o (by decide), hs.ins]
          congr 1
          exact sp_set_cong (fun k hk => by rw [if_neg (by omega)])
        · rw [bq_up_o (by decide), if_neg (by omega)]; exact hs.bell
        · rw [bq_up_o (by decide), if_neg (by omega)]; exact hs.hung
        · rw [bq_up_o (by decide), if_neg (by omega)]; exact hs.paid
        · rw [bq_up_o (by decide), if_neg (by omega)]; exact hs.rain
        · rw [bq_up_o (by decide), if_neg (by omega)]; exact (hs.dr k hk).1
        · rw [bq_up]
          by_cases z : k = d
          · rw [if_pos ⟨rfl, z⟩, if_pos (by omega)]
          · rw [if_neg (fun y => z y.2), if_neg (by omega)]; exact (hs.dr k hk).2) (by
        refine sp_wf_gen hN.1 (fun k hk => ⟨?_, ?_, ?_⟩) (fun k h1 h2 => ?_) (if_neg (by omega)) (if_neg (by omega)) ?_ ?_ ?_ (fun j hj => if_neg (by omega))
        · rw [if_neg (by omega)]; exact (hN.1.dr k hk).1
        · rw [if_neg (by omega)]; exact (hN.1.dr k hk).2.1
        · by_cases z : k = d
          · rw [if_pos (by omega)]; exact ⟨t, rfl, by omega, by omega⟩
          · rw [if_neg (by omega)]; exact (hN.1.dr k hk).2.2
        · rw [if_neg (by omega)]; exact hN.1.no k h1 h2
        · rw [if_neg (by omega)]; exact hN.1.bell
        · rw [if_neg (by omega)]; exact hN.1.hung
        · rw [if_neg (by omega)]; exact hN.1.rain)
      refine ⟨σ 144 (14 + d), bo_up σ1 52 d (nI t), _, ?_, ?_, w7⟩
      · rw [w1, Option.bind_some, bq_at (by omega) (by decide), Option.bind_some, w2 52 d (by omega) (by omega), show σ 52 d = σ 144 (14 + d) from (hN.2.dr d (by omega)).2, bq_put (by omega) (by decide), Option.bind_some]
      · unfold mX11_turn
        rw [rf_isDrinker hH.1 w3, if_pos c, Option.bind_some, if_neg bq_10, rf_in (b := 0) (c := 39) (by decide +kernel) (by decide +kernel), Option.bind_some, if_pos c2, if_neg bq_10, w5, Option.bind_some, rf_ld14 (by omega), Option.bind_some, w6, show (14 : Int32) + nI d = nI (14 + d) from nI_add 14 d, rf_stk (by omega), Option.bind_some]
    · refine ⟨-1000000002, σ, σ, ?_, ?_, h⟩
      · by_cases c1 : q < 0
        · rw [if_pos c1]
        · rw [if_neg c1, if_neg (fun z => c2 ⟨bq_nlt.mp c1, z⟩)]
      · unfold mX11_turn
        rw [rf_isDrinker hH.1 sp_ag.rf, if_pos c, Option.bind_some, rf_in (b := 0) (c := 39) (by decide +kernel) (by decide +kernel), Option.bind_some, if_neg bq_10, if_neg c2, if_pos bq_00]
  · rw [if_neg c, if_pos bq_00]
    refine ⟨_, σ, σ, rfl, ?_, h⟩
    unfold mX11_turn
    rw [rf_isDrinker hH.1 sp_ag.rf, if_neg c, Option.bind_some, if_pos bq_00]
theorem st_hang (h : in_all σ) (p : Int32) : ∃ r σ1 σ2, mX10_hang σ p = some (r, σ1) ∧ mX11_hang σ1 p = some (r, σ2) ∧ in_all σ2 := by
  obtain ⟨D, G, S, X, g, hH, hN, hR⟩ := id h
  refine pre_WW (fm := fun s => mX11_hang s p) h (0 ≤ p ∧ p ≤ 96) (by unfold mX10_hang; rw [cl_rng, cl_preW hH]) (fun c => ?_) (fun c ho => ?_) (fun c ho => ?_)
  · unfold mX11_hang
    rw [rf_in (b := 0) (c := 96) (by decide +kernel) (by decide +kernel), if_neg c]; rfl
  · unfold mX11_hang
    rw [rf_in (b := 0) (c := 96) (by decide +kernel) (by decide +kernel), if_pos c, Option.bind_some, if_neg bq_10, if_pos (sp_open_f ho)]
  · obtain ⟨t, rfl, -, ht⟩ := bq_rng (a := 0) (b := 96) c.1 c.2 (by decide) (by decide)
    obtain ⟨σ1, σ3, w1, w2, w3, w4, w5, w6, w7⟩ := wr_up hH hN hR (j := 23) (v := nI t) (fun s => bo_up s 50 7 (nI t)) (fun s a b z => bq_up_o (show a ≠ 50 by omega) ▸ rfl) (by
      intro s hs
      refine sp_rep_gen hs (fun a ha => bq_up_o (by omega)) ?_ ?_ ?_ ?_ ?_ ?_ (fun k hk => ⟨?_, ?_⟩) (fun j hj => if_neg (by omega))
      · rw [bq_up, if_neg (by decide), if_neg (by omega)]; exact hs.gone
      · rw [bq_up, if_neg (by decide), hs.ins]
        congr 1
        have := hN.1.L
        exact sp_set_cong (fun k hk => by rw [if_neg (by have := hH.1.nD.2; omega)])
      · rw [bq_up, if_neg (by decide), if_neg (by omega)]; exact hs.bell
      · rw [bq_up_s, if_pos rfl]
      · rw [bq_up, if_neg (by decide), if_neg (by omega)]; exact hs.paid
      · rw [bq_up, if_neg (by decide), if_neg (by omega)]; exact hs.rain
      · rw [bq_up_o (by decide), if_neg (by omega)]; exact (hs.dr k hk).1
      · rw [bq_up_o (by decide), if_neg (by omega)]; exact (hs.dr k hk).2) (by
      refine sp_wf_gen hN.1 (fun k hk => ⟨?_, ?_, ?_⟩) (fun k h1 h2 => ?_) (if_neg (by omega)) (if_neg (by omega)) ?_ ?_ ?_ (fun j hj => if_neg (by omega))
      · rw [if_neg (by omega)]; exact (hN.1.dr k hk).1
      · rw [if_neg (by omega)]; exact (hN.1.dr k hk).2.1
      · rw [if_neg (by omega)]; exact (hN.1.dr k hk).2.2
      · rw [if_neg (by omega)]; exact hN.1.no k h1 h2
      · rw [if_neg (by omega)]; exact hN.1.bell
      · rw [if_pos rfl]; exact ⟨t, rfl, by omega, ht⟩
      · rw [if_neg (by omega)]; exact hN.1.rain)
    refine ⟨σ 144 23, bo_up σ1 50 7 (nI t), _, ?_, ?_, w7⟩
    · rw [w1, Option.bind_some, Option.bind_some, w2 50 7 (by omega) (by omega), hN.2.hung]
    · show mX11_hang _ (nI t) = _
      unfold mX11_hang
      have ho' : sp_open (bo_up σ1 50 7 (nI t)) = true := by unfold sp_open; rw [w3.1 0 (by decide)]; exact ho
      rw [rf_in (b := 0) (c := 96) (by decide +kernel) (by decide +kernel), if_pos c, Option.bind_some, if_neg bq_10, if_neg (sp_open_t ho'), w5, Option.bind_some, show (23 : Int32) = nI 23 from rfl, rf_ldk 23 (by decide), Option.bind_some, rf_stk (by omega), Option.bind_some, w6]
theorem st_rain (h : in_all σ) (p : Int32) : ∃ r σ1 σ2, mX10_rain σ p = some (r, σ1) ∧ mX11_rain σ1 p = some (r, σ2) ∧ in_all σ2 := by
  obtain ⟨D, G, S, X, g, hH, hN, hR⟩ := id h
  refine pre_WW (fm := fun s => mX11_rain s p) h (0 ≤ p ∧ p ≤ 2) (by unfold mX10_rain; rw [cl_rng, cl_preW hH]) (fun c => ?_) (fun c ho => ?_) (fun c ho => ?_)
  · unfold mX11_rain
    rw [rf_in (b := 0) (c := 2) (by decide +kernel) (by decide +kernel), if_neg c]; rfl
  · unfold mX11_rain
    rw [rf_in (b := 0) (c := 2) (by decide +kernel) (by decide +kernel), if_pos c, Option.bind_some, if_neg bq_10, if_pos (sp_open_f ho)]
  · obtain ⟨t, rfl, -, ht⟩ := bq_rng (a := 0) (b := 2) c.1 c.2 (by decide) (by decide)
    obtain ⟨σ1, σ3, w1, w2, w3, w4, w5, w6, w7⟩ := wr_up hH hN hR (j := 25) (v := nI t) (fun s => bo_up s 50 9 (nI t)) (fun s a b z => bq_up_o (show a ≠ 50 by omega) ▸ rfl) (by
      intro s hs
      refine sp_rep_gen hs (fun a ha => bq_up_o (by omega)) ?_ ?_ ?_ ?_ ?_ ?_ (fun k hk => ⟨?_, ?_⟩) (fun j hj => if_neg (by omega))
      · rw [bq_up, if_neg (by decide), if_neg (by omega)]; exact hs.gone
      · rw [bq_up, if_neg (by decide), hs.ins]
        congr 1
        exact sp_set_cong (fun k hk => by rw [if_neg (by have := hH.1.nD.2; omega)])
      · rw [bq_up, if_neg (by decide), if_neg (by omega)]; exact hs.bell
      · rw [bq_up, if_neg (by decide), if_neg (by omega)]; exact hs.hung
      · rw [bq_up, if_neg (by decide), if_neg (by omega)]; exact hs.paid
      · rw [bq_up_s, if_pos rfl]
      · rw [bq_up_o (by decide), if_neg (by omega)]; exact (hs.dr k hk).1
      · rw [bq_up_o (by decide), if_neg (by omega)]; exact (hs.dr k hk).2) (by
      refine sp_wf_gen hN.1 (fun k hk => ⟨?_, ?_, ?_⟩) (fun k h1 h2 => ?_) (if_neg (by omega)) (if_neg (by omega)) ?_ ?_ ?_ (fun j hj => if_neg (by omega))
      · rw [if_neg (by omega)]; exact (hN.1.dr k hk).1
      · rw [if_neg (by omega)]; exact (hN.1.dr k hk).2.1
      · rw [if_neg (by omega)]; exact (hN.1.dr k hk).2.2
      · rw [if_neg (by omega)]; exact hN.1.no k h1 h2
      · rw [if_neg (by omega)]; exact hN.1.bell
      · rw [if_neg (by omega)]; exact hN.1.hung
      · rw [if_pos rfl]; exact ⟨t, rfl, by omega, ht⟩)
    refine ⟨σ 144 25, bo_up σ1 50 9 (nI t), _, ?_, ?_, w7⟩
    · rw [w1, Option.bind_some, Option.bind_some, w2 50 9 (by omega) (by omega), hN.2.rain]
    · show mX11_rain _ (nI t) = _
      unfold mX11_rain
      have ho' : sp_open (bo_up σ1 50 9 (nI t)) = true := by unfold sp_open; rw [w3.1 0 (by decide)]; exact ho
      rw [rf_in (b := 0) (c := 2) (by decide +kernel) (by decide +kernel), if_pos c, Option.bind_some, if_neg bq_10, if_neg (sp_open_t ho'), w5, Option.bind_some, show (25 : Int32) = nI 25 from rfl, rf_ldk 25 (by decide), Option.bind_some, rf_stk (by omega), Option.bind_some, w6]
end WRITERS2
