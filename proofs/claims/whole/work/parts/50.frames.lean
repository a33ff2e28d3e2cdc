/-! what each part of the relation reads -/
section FRAMES
variable {σ σ' : bo_M} {D G S X g : Nat}
theorem in_house.fr (h : in_house σ D G S X) (hs : ∀ a b, (a = 0 ∧ (b = 9 ∨ b = 10)) ∨ (34 ≤ a ∧ a ≤ 49) ∨ (136 ≤ a ∧ a ≤ 143) ∨ (a = 135 ∧ (b ≤ 4 ∨ b = 8 ∨ b = 11 ∨ b = 14)) → σ' a b = σ a b) : in_house σ' D G S X :=
  h.to (hs 0 9 (by omega)) (hs 0 10 (by omega)) ⟨fun b hb => hs 135 b (by omega), fun a z1 z2 b => hs a b (by omega)⟩ (fun a z1 z2 => funext fun b => hs a b (by omega))
theorem in_now.fr (h : in_now σ D g) (hs : ∀ a b, a = 144 ∨ (50 ≤ a ∧ a ≤ 54) → σ' a b = σ a b) : in_now σ' D g :=
  h.to (funext fun b => hs 144 b (by omega)) (fun a z1 z2 => funext fun b => hs a b (by omega))
theorem in_text.fr (h : in_text σ) (hs : ∀ a b, (a = 1 ∧ (b = 4 ∨ b = 5)) ∨ a = 2 ∨ a = 145 ∨ (a = 135 ∧ (b = 19 ∨ b = 20)) → σ' a b = σ a b) : in_text σ' :=
  h.to (hs 1 4 (by omega)) (hs 1 5 (by omega)) (funext fun b => hs 2 b (by omega)) (hs 135 19 (by omega)) (hs 135 20 (by omega)) (funext fun b => hs 145 b (by omega))
theorem in_seed.fr (h : in_seed σ) (hs : ∀ a b, (a = 0 ∧ b = 11) ∨ (a = 135 ∧ b = 17) → σ' a b = σ a b) : in_seed σ' := h.to (hs 0 11 (by omega)) (hs 135 17 (by omega))
theorem in_past.fr (h : in_past σ D) (hs : ∀ a b, (a = 3 ∧ b = 1) ∨ a = 4 ∨ a = 155 ∨ (55 ≤ a ∧ a ≤ 134) ∨ (a = 135 ∧ b = 38) → σ' a b = σ a b) : in_past σ' D :=
  h.to (hs 3 1 (by omega)) (funext fun b => hs 4 b (by omega)) (hs 135 38 (by omega)) (funext fun b => hs 155 b (by omega)) (fun a z1 z2 => funext fun b => hs a b (by omega))
theorem in_img.fr (h : in_img σ D) (hs : ∀ a b, (5 ≤ a ∧ a ≤ 16) ∨ a = 166 ∨ a = 167 → σ' a b = σ a b) : in_img σ' D :=
  h.to (funext fun b => hs 166 b (by omega)) (funext fun b => hs 167 b (by omega)) (fun a z1 z2 => funext fun b => hs a b (by omega))
theorem in_known.fr (h : in_known σ) (hs : ∀ a b, (a = 24 ∧ b = 4) ∨ a = 25 ∨ a = 26 ∨ a = 160 ∨ a = 161 ∨ (a = 135 ∧ b = 44) → σ' a b = σ a b) : in_known σ' :=
  h.to (hs 24 4 (by omega)) (hs 135 44 (by omega)) (funext fun b => hs 25 b (by omega)) (funext fun b => hs 26 b (by omega)) (funext fun b => hs 160 b (by omega)) (funext fun b => hs 161 b (by omega))
theorem in_book.fr (h : in_book σ D) (hs : ∀ a b, (a = 29 ∧ b = 2) ∨ a = 30 ∨ a = 31 ∨ a = 164 ∨ a = 165 ∨ (a = 135 ∧ b = 49) → σ' a b = σ a b) : in_book σ' D :=
  h.to (hs 29 2 (by omega)) (hs 135 49 (by omega)) (funext fun b => hs 30 b (by omega)) (funext fun b => hs 31 b (by omega)) (funext fun b => hs 164 b (by omega)) (funext fun b => hs 165 b (by omega))
theorem bq_up_s {σ : bo_M} {o k : Nat} {v : Int32} : bo_up σ o k v o k = v := by rw [bq_up, if_pos ⟨rfl, rfl⟩]
/-! feed, was, write, tear, seed -/
theorem st_feed (h : in_all σ) (p : Int32) : ∃ r σ1 σ2, mX10_feed σ p = some (r, σ1) ∧ mX11_feed σ1 p = some (r, σ2) ∧ in_all σ2 := by
  obtain ⟨D, G, S, X, g, hH, hN, ⟨m, m1, m2, m3, m4, m5⟩, r2, r3, r4, r5, r6⟩ := id h
  by_cases c : 0 ≤ p ∧ p ≤ 255
  · obtain ⟨v, rfl, -, hv⟩ := bq_rng (a := 0) (b := 255) c.1 c.2 (by decide) (by decide)
    by_cases hm : m < 240
    · refine ⟨nI (m + 1), bo_up (bo_up σ 2 m (nI v)) 1 4 (nI (m + 1)), bo_up (bo_up (bo_up (bo_up σ 2 m (nI v)) 1 4 (nI (m + 1))) 145 m (nI v)) 135 19 (nI (m + 1)), ?_, ?_, ?_⟩
      · unfold mX10_feed mX7_append
        rw [if_neg (nI_pos (by omega)), if_pos c.2, m2, if_pos (show nI m < 240 from nI_lt (b := 240) hm (by decide)), bq_put hm (by decide), Option.bind_some, Option.bind_some, Option.bind_some, bq_up_o (by decide), m2, nI_1, if_neg bq_10]
        dsimp only
        rw [bq_up_s]
      · unfold mX11_feed
        rw [rf_in (b := 0) (c := 255) (by decide +kernel) (by decide +kernel), if_pos c, Option.bind_some, if_neg bq_10, bq_up_o (by decide), bq_up_o (by decide), m3, if_neg (show ¬ nI m = 240 from fun z => by have := (nI_eq (b := 240) (by omega) (by decide)).mp z; omega), bq_st hm (by decide), Option.bind_some, Option.bind_some, bq_up_s, bq_up_o (by decide), bq_up_o (by decide), bq_up_o (by decide), m3, nI_1]
      · have ro : ∀ a b, ¬ (a = 2) → ¬ (a = 1 ∧ b = 4) → ¬ (a = 145) → ¬ (a = 135 ∧ b = 19) → bo_up (bo_up (bo_up (bo_up σ 2 m (nI v)) 1 4 (nI (m + 1))) 145 m (nI v)) 135 19 (nI (m + 1)) a b = σ a b := fun a b z1 z2 z3 z4 => by
          rw [bq_up, if_neg (by omega), bq_up, if_neg (by omega), bq_up, if_neg (by omega), bq_up, if_neg (by omega)]
        refine ⟨D, G, S, X, g, hH.fr (fun a b z => ro a b (by omega) (by omega) (by omega) (by omega)), hN.fr (fun a b z => ro a b (by omega) (by omega) (by omega) (by omega)), ⟨m + 1, by omega, ?_, ?_, fun k hk => ?_, ?_⟩, r2.fr (fun a b z => ro a b (by omega) (by omega) (by omega) (by omega)), r3.fr (fun a b z => ro a b (by omega) (by omega) (by omega) (by omega)), r4.fr (fun a b z => ro a b (by omega) (by omega) (by omega) (by omega)), r5.fr (fun a b z => ro a b (by omega) (by omega) (by omega) (by omega)), r6.fr (fun a b z => ro a b (by omega) (by omega) (by omega) (by omega))⟩
        · rw [bq_up_o (by decide), bq_up_o (by decide), bq_up, if_pos ⟨rfl, rfl⟩]
        · rw [bq_up, if_pos ⟨rfl, rfl⟩]
        · rw [bq_up_o (by decide), bq_up_o (by decide), bq_up_o (by decide), bq_up, bq_up_o (by decide), bq_up, bq_up_o (by decide), bq_up_o (by decide)]
          by_cases z : k = m
          · rw [if_pos ⟨rfl, z⟩, if_pos ⟨rfl, z⟩]
            exact ⟨rfl, v, rfl, by omega, hv⟩
          · rw [if_neg (fun y => z y.2), if_neg (fun y => z y.2)]
            exact m4 k (by omega)
        · rw [ro 1 5 (by omega) (by omega) (by omega) (by omega), ro 135 20 (by omega) (by omega) (by omega) (by omega)]; exact m5
    · have e : m = 240 := by omega
      subst e
      refine ⟨-1000000004, σ, σ, ?_, ?_, h⟩
      · unfold mX10_feed mX7_append
        rw [if_neg (nI_pos (by omega)), if_pos c.2, m2, if_neg (show ¬ nI 240 < 240 by decide), Option.bind_some, if_pos bq_00]
      · unfold mX11_feed
        rw [rf_in (b := 0) (c := 255) (by decide +kernel) (by decide +kernel), if_pos c, Option.bind_some, if_neg bq_10, m3, if_pos (show nI 240 = 240 from rfl)]
  · refine ⟨-1000000002, σ, σ, ?_, ?_, h⟩
    · unfold mX10_feed
      by_cases c1 : p < 0
      · rw [if_pos c1]
      · rw [if_neg c1, if_neg (fun z => c ⟨bq_nlt.mp c1, z⟩)]
    · unfold mX11_feed
      rw [rf_in (b := 0) (c := 255) (by decide +kernel) (by decide +kernel), if_neg c, Option.bind_some, if_pos bq_00]
theorem bq_96 {p : Int32} : (96 ≤ p) = ¬ (p ≤ 95) := propext ⟨fun z y => by
    have a := (fa_le _ _).mp z
    have b := (fa_le _ _).mp y
    have e1 : (96 : Int32).toInt = 96 := by decide
    have e2 : (95 : Int32).toInt = 95 := by decide
    omega, fun z => by
    have a := (fa_lt _ _).mp (bq_nle.mp z)
    rw [fa_le]
    have e1 : (96 : Int32).toInt = 96 := by decide
    have e2 : (95 : Int32).toInt = 95 := by decide
    omega⟩
theorem st_was (h : in_all σ) (p q : Int32) : ∃ r σ1 σ2, mX10_was σ p q = some (r, σ1) ∧ mX11_was σ1 p q = some (r, σ2) ∧ in_all σ2 := by
  obtain ⟨D, G, S, X, g, hH, hN, r1, r2, r3, r4, ⟨w, w1, w2, w3, w4⟩, r6⟩ := id h
  have hc : (if p < 0 then some (1 : Int32) else if 96 ≤ p then some 1 else if q < 0 then some 1 else if q ≤ 16 then some 0 else some 1) = some (if (0 ≤ p ∧ p ≤ 95) ∧ (0 ≤ q ∧ q ≤ 16) then 0 else 1) := by
    by_cases h1 : p < 0
    · rw [if_pos h1, if_neg (fun z => bq_nlt.mpr z.1.1 h1)]
    · rw [if_neg h1]
      by_cases h2 : p ≤ 95
      · rw [if_neg (by rw [bq_96]; exact fun y => y h2), cl_rng]
        by_cases h3 : 0 ≤ q ∧ q ≤ 16
        · rw [if_pos h3, if_pos ⟨⟨bq_nlt.mp h1, h2⟩, h3⟩]
        · rw [if_neg h3, if_neg (fun z => h3 z.2)]
      · rw [if_pos (by rw [bq_96]; exact h2), if_neg (fun z => h2 z.1.2)]
  have hr : mX11_was σ p q = if (0 ≤ p ∧ p ≤ 95) ∧ (0 ≤ q ∧ q ≤ 16) then (if sp_open σ then (if (σ 135 44) = 6 then some (-1000000004, σ) else (bo_st 6 σ 160 (σ 135 44) p).bind fun σ3 => (bo_st 6 σ3 161 (σ3 135 44) q).bind fun σ4 => (some (bo_up σ4 135 44 ((σ4 135 44) + 1))).bind fun σ5 => some ((σ5 135 44), σ5)) else some (-1000000003, σ)) else some (-1000000002, σ) := by
    unfold mX11_was
    rw [rf_in (b := 0) (c := 95) (by decide +kernel) (by decide +kernel), Option.bind_some, rf_in (b := 0) (c := 16) (by decide +kernel) (by decide +kernel), Option.bind_some]
    by_cases h1 : 0 ≤ p ∧ p ≤ 95
    · rw [if_pos h1, if_neg bq_10]
      by_cases h2 : 0 ≤ q ∧ q ≤ 16
      · rw [if_pos h2, if_neg bq_10, if_pos (show (0 ≤ p ∧ p ≤ 95) ∧ (0 ≤ q ∧ q ≤ 16) from ⟨h1, h2⟩)]
        cases ho : sp_open σ with
        | true => rw [if_neg (sp_open_t ho), if_pos rfl]
        | false => rw [if_pos (sp_open_f ho)]; rfl
      · rw [if_neg h2, if_pos bq_00, if_neg (fun z => h2 z.2)]
    · rw [if_neg h1, if_pos bq_00, if_neg (fun z => h1 z.1)]
  have hx : mX10_was σ p q = if (0 ≤ p ∧ p ≤ 95) ∧ (0 ≤ q ∧ q ≤ 16) then (if sp_open σ then ((mX5_append σ p q).bind fun a3 => if a3.1 = 0 then some ((-1000000004), a3.2) else some ((a3.2 24 4), a3.2)) else some (-1000000003, σ)) else some (-1000000002, σ) := by
    unfold mX10_was
    rw [hc, cl_preW hH]
  rw [hx]
  by_cases c : (0 ≤ p ∧ p ≤ 95) ∧ (0 ≤ q ∧ q ≤ 16)
  · rw [if_pos c]
    rw [if_pos c] at hr
    cases ho : sp_open σ with
    | false =>
      rw [ho] at hr
      exact ⟨_, σ, σ, rfl, hr, h⟩
    | true =>
      rw [if_pos rfl]
      obtain ⟨a, rfl, -, ha⟩ := bq_rng (a := 0) (b := 95) c.1.1 c.1.2 (by decide) (by decide)
      obtain ⟨b, rfl, -, hb⟩ := bq_rng (a := 0) (b := 16) c.2.1 c.2.2 (by decide) (by decide)
      unfold mX5_append
      by_cases hw : w < 6
      · obtain ⟨s1, hs1⟩ : ∃ s1, s1 = bo_up (bo_up (bo_up σ 25 w (nI a)) 26 w (nI b)) 24 4 (nI (w + 1)) := ⟨_, rfl⟩
        obtain ⟨s2, hs2⟩ : ∃ s2, s2 = bo_up (bo_up (bo_up s1 160 w (nI a)) 161 w (nI b)) 135 44 (nI (w + 1)) := ⟨_, rfl⟩
        have ro1 : ∀ a' b', ¬ (a' = 25) → ¬ (a' = 26) → ¬ (a' = 24 ∧ b' = 4) → s1 a' b' = σ a' b' := fun a' b' z1 z2 z3 => by
          rw [hs1, bq_up, if_neg z3, bq_up, if_neg (by omega), bq_up, if_neg (by omega)]
        have ro : ∀ a' b', ¬ (a' = 25) → ¬ (a' = 26) → ¬ (a' = 24 ∧ b' = 4) → ¬ (a' = 160) → ¬ (a' = 161) → ¬ (a' = 135 ∧ b' = 44) → s2 a' b' = σ a' b' := fun a' b' z1 z2 z3 z4 z5 z6 => by
          rw [hs2, bq_up, if_neg z6, bq_up, if_neg (by omega), bq_up, if_neg (by omega), ro1 a' b' z1 z2 z3]
        refine ⟨nI (w + 1), s1, s2, ?_, ?_, ?_⟩
        · rw [w2, if_pos (show nI w < 6 from nI_lt (b := 6) hw (by decide)), bq_put hw (by decide), Option.bind_some, bq_up_o (by decide), w2, bq_put hw (by decide), Option.bind_some, Option.bind_some, bq_up_o (by decide), bq_up_o (by decide), w2, nI_1, Option.bind_some, if_neg bq_10]
          dsimp only
          rw [bq_up_s, hs1]
        · have hr1 : s1 135 44 = nI w := by rw [ro1 135 44 (by decide) (by decide) (by decide)]; exact w3
          have ho1 : sp_open s1 = true := by unfold sp_open; rw [ro1 135 0 (by decide) (by decide) (by decide)]; exact ho
          unfold mX11_was
          rw [rf_in (b := 0) (c := 95) (by decide +kernel) (by decide +kernel), Option.bind_some, rf_in (b := 0) (c := 16) (by decide +kernel) (by decide +kernel), Option.bind_some, if_pos c.1, if_neg bq_10, if_pos c.2, if_neg bq_10, if_neg (sp_open_t ho1), hr1, if_neg (show ¬ nI w = 6 from fun z => by have := (nI_eq (b := 6) (by omega) (by decide)).mp z; omega), bq_st hw (by decide), Option.bind_some, bq_up_o (by decide), hr1, bq_st hw (by decide), Option.bind_some, Option.bind_some, bq_up_s, bq_up_o (by decide), bq_up_o (by decide), hr1, nI_1, ← hs2]
        · refine ⟨D, G, S, X, g, hH.fr (fun a b z => ro a b (by omega) (by omega) (by omega) (by omega) (by omega) (by omega)), hN.fr (fun a b z => ro a b (by omega) (by omega) (by omega) (by omega) (by omega) (by omega)), r1.fr (fun a b z => ro a b (by omega) (by omega) (by omega) (by omega) (by omega) (by omega)), r2.fr (fun a b z => ro a b (by omega) (by omega) (by omega) (by omega) (by omega) (by omega)), r3.fr (fun a b z => ro a b (by omega) (by omega) (by omega) (by omega) (by omega) (by omega)), r4.fr (fun a b z => ro a b (by omega) (by omega) (by omega) (by omega) (by omega) (by omega)), ⟨w + 1, by omega, ?_, ?_, fun k hk => ?_⟩, r6.fr (fun a b z => ro a b (by omega) (by omega) (by omega) (by omega) (by omega) (by omega))⟩
          · rw [hs2, bq_up_o (by decide), bq_up_o (by decide), bq_up_o (by decide), hs1, bq_up, if_pos ⟨rfl, rfl⟩]
          · rw [hs2, bq_up, if_pos ⟨rfl, rfl⟩]
          · have e25 : s2 25 k = if k = w then nI a else σ 25 k := by
              rw [hs2, bq_up_o (by decide), bq_up_o (by decide), bq_up_o (by decide), hs1, bq_up_o (by decide), bq_up_o (by decide), bq_up]
              by_cases z : k = w
              · rw [if_pos ⟨rfl, z⟩, if_pos z]
              · rw [if_neg (fun y => z y.2), if_neg z]
            have e26 : s2 26 k = if k = w then nI b else σ 26 k := by
              rw [hs2, bq_up_o (by decide), bq_up_o (by decide), bq_up_o (by decide), hs1, bq_up_o (by decide), bq_up]
              by_cases z : k = w
              · rw [if_pos ⟨rfl, z⟩, if_pos z]
              · rw [if_neg (fun y => z y.2), if_neg z, bq_up_o (by decide)]
            have e160 : s2 160 k = if k = w then nI a else σ 160 k := by
              rw [hs2, bq_up_o (by decide), bq_up_o (by decide), bq_up]
              by_cases z : k = w
              · rw [if_pos ⟨rfl, z⟩, if_pos z]
              · rw [if_neg (fun y => z y.2), if_neg z, ro1 160 k (by decide) (by decide) (by omega)]
            have e161 : s2 161 k = if k = w then nI b else σ 161 k := by
              rw [hs2, bq_up_o (by decide), bq_up]
              by_cases z : k = w
              · rw [if_pos ⟨rfl, z⟩, if_pos z]
              · rw [if_neg (fun y => z y.2), if_neg z, bq_up_o (by decide), ro1 161 k (by decide) (by decide) (by omega)]
            rw [e25, e26, e160, e161]
            by_cases z : k = w
            · rw [if_pos z, if_pos z, if_pos z, if_pos z]
              exact ⟨rfl, rfl, ⟨a, rfl, by omega, ha⟩, ⟨b, rfl, by omega, hb⟩⟩
            · rw [if_neg z, if_neg z, if_neg z, if_neg z]
              exact w4 k (by omega)
      · have e : w = 6 := by omega
        subst e
        refine ⟨-1000000004, σ, σ, ?_, ?_, h⟩
        · rw [w2, if_neg (show ¬ nI 6 < 6 by decide), Option.bind_some, if_pos bq_00]
        · rw [hr, ho, if_pos rfl, w3, if_pos (show nI 6 = 6 from rfl)]
  · rw [if_neg c]
    rw [if_neg c] at hr
    exact ⟨_, σ, σ, rfl, hr, h⟩
theorem st_write (h : in_all σ) (p q : Int32) : ∃ r σ1 σ2, mX10_write σ p q = some (r, σ1) ∧ mX11_write σ1 p q = some (r, σ2) ∧ in_all σ2 := by
  obtain ⟨D, G, S, X, g, hH, hN, r1, r2, r3, r4, r5, ⟨w, w1, w2, w3, w4⟩⟩ := id h
  have h7 := hH.1.nD.2
  unfold mX10_write
  rw [cl_isDrinker hH, Option.bind_some]
  by_cases c : 0 ≤ p ∧ p < nI D
  · rw [if_pos c, if_neg bq_10]
    obtain ⟨a, rfl, ha⟩ := bq_pick (by omega) c
    by_cases c2 : 0 ≤ q ∧ q ≤ 20
    · rw [if_neg (bq_nlt.mpr c2.1), if_pos c2.2]
      obtain ⟨b, rfl, -, hb⟩ := bq_rng (a := 0) (b := 20) c2.1 c2.2 (by decide) (by decide)
      unfold mX0_append
      by_cases hw : w < 15
      · obtain ⟨s1, hs1⟩ : ∃ s1, s1 = bo_up (bo_up (bo_up σ 30 w (nI a)) 31 w (nI b)) 29 2 (nI (w + 1)) := ⟨_, rfl⟩
        obtain ⟨s2, hs2⟩ : ∃ s2, s2 = bo_up (bo_up (bo_up s1 164 w (nI a)) 165 w (nI b)) 135 49 (nI (w + 1)) := ⟨_, rfl⟩
        have ro1 : ∀ a' b', ¬ (a' = 30) → ¬ (a' = 31) → ¬ (a' = 29 ∧ b' = 2) → s1 a' b' = σ a' b' := fun a' b' z1 z2 z3 => by
          rw [hs1, bq_up, if_neg z3, bq_up, if_neg (by omega), bq_up, if_neg (by omega)]
        have ro : ∀ a' b', ¬ (a' = 30) → ¬ (a' = 31) → ¬ (a' = 29 ∧ b' = 2) → ¬ (a' = 164) → ¬ (a' = 165) → ¬ (a' = 135 ∧ b' = 49) → s2 a' b' = σ a' b' := fun a' b' z1 z2 z3 z4 z5 z6 => by
          rw [hs2, bq_up, if_neg z6, bq_up, if_neg (by omega), bq_up, if_neg (by omega), ro1 a' b' z1 z2 z3]
        refine ⟨nI (w + 1), s1, s2, ?_, ?_, ?_⟩
        · rw [w2, if_pos (show nI w < 15 from nI_lt (b := 15) hw (by decide)), bq_put hw (by decide), Option.bind_some, bq_up_o (by decide), w2, bq_put hw (by decide), Option.bind_some, Option.bind_some, bq_up_o (by decide), bq_up_o (by decide), w2, nI_1, Option.bind_some, if_neg bq_10]
          dsimp only
          rw [bq_up_s, hs1]
        · have hr1 : s1 135 49 = nI w := by rw [ro1 135 49 (by decide) (by decide) (by decide)]; exact w3
          unfold mX11_write
          rw [rf_isDrinker hH.1 (sp_ag.rf.to (fun a z1 z2 => funext fun b => ro1 a b (by omega) (by omega) (by omega))), if_pos c, Option.bind_some, rf_in (b := 0) (c := 20) (by decide +kernel) (by decide +kernel), Option.bind_some, if_neg bq_10, if_pos c2, if_neg bq_10, hr1, if_neg (show ¬ nI w = 15 from fun z => by have := (nI_eq (b := 15) (by omega) (by decide)).mp z; omega), bq_st hw (by decide), Option.bind_some, bq_up_o (by decide), hr1, bq_st hw (by decide), Option.bind_some, Option.bind_some, bq_up_s, bq_up_o (by decide), bq_up_o (by decide), hr1, nI_1, ← hs2]
        · refine ⟨D, G, S, X, g, hH.fr (fun a b z => ro a b (by omega) (by omega) (by omega) (by omega) (by omega) (by omega)), hN.fr (fun a b z => ro a b (by omega) (by omega) (by omega) (by omega) (by omega) (by omega)), r1.fr (fun a b z => ro a b (by omega) (by omega) (by omega) (by omega) (by omega) (by omega)), r2.fr (fun a b z => ro a b (by omega) (by omega) (by omega) (by omega) (by omega) (by omega)), r3.fr (fun a b z => ro a b (by omega) (by omega) (by omega) (by omega) (by omega) (by omega)), r4.fr (fun a b z => ro a b (by omega) (by omega) (by omega) (by omega) (by omega) (by omega)), r5.fr (fun a b z => ro a b (by omega) (by omega) (by omega) (by omega) (by omega) (by omega)), ⟨w + 1, by omega, ?_, ?_, fun k hk => ?_⟩⟩
          · rw [hs2, bq_up_o (by decide), bq_up_o (by decide), bq_up_o (by decide), hs1, bq_up, if_pos ⟨rfl, rfl⟩]
          · rw [hs2, bq_up, if_pos ⟨rfl, rfl⟩]
          · have e25 : s2 30 k = if k = w then nI a else σ 30 k := by
              rw [hs2, bq_up_o (by decide), bq_up_o (by decide), bq_up_o (by decide), hs1, bq_up_o (by decide), bq_up_o (by decide), bq_up]
              by_cases z : k = w
              · rw [if_pos ⟨rfl, z⟩, if_pos z]
              · rw [if_neg (fun y => z y.2), if_neg z]
            have e26 : s2 31 k = if k = w then nI b else σ 31 k := by
              rw [hs2, bq_up_o (by decide), bq_up_o (by decide), bq_up_o (by decide), hs1, bq_up_o (by decide), bq_up]
              by_cases z : k = w
              · rw [if_pos ⟨rfl, z⟩, if_pos z]
              · rw [if_neg (fun y => z y.2), if_neg z, bq_up_o (by decide)]
            have e160 : s2 164 k = if k = w then nI a else σ 164 k := by
              rw [hs2, bq_up_o (by decide), bq_up_o (by decide), bq_up]
              by_cases z : k = w
              · rw [if_pos ⟨rfl, z⟩, if_pos z]
              · rw [if_neg (fun y => z y.2), if_neg z, ro1 164 k (by decide) (by decide) (by omega)]
            have e161 : s2 165 k = if k = w then nI b else σ 165 k := by
              rw [hs2, bq_up_o (by decide), bq_up]
              by_cases z : k = w
              · rw [if_pos ⟨rfl, z⟩, if_pos z]
              · rw [if_neg (fun y => z y.2), if_neg z, bq_up_o (by decide), ro1 165 k (by decide) (by decide) (by omega)]
            rw [e25, e26, e160, e161]
            by_cases z : k = w
            · rw [if_pos z, if_pos z, if_pos z, if_pos z]
              exact ⟨rfl, rfl, a, rfl, ha⟩
            · rw [if_neg z, if_neg z, if_neg z, if_neg z]
              exact w4 k (by omega)
      · have e : w = 15 := by omega
        subst e
        refine ⟨-1000000004, σ, σ, ?_, ?_, h⟩
        · rw [w2, if_neg (show ¬ nI 15 < 15 by decide), Option.bind_some, if_pos bq_00]
        · unfold mX11_write
          rw [rf_isDrinker hH.1 sp_ag.rf, if_pos c, Option.bind_some, rf_in (b := 0) (c := 20) (by decide +kernel) (by decide +kernel), Option.bind_some, if_neg bq_10, if_pos c2, if_neg bq_10, w3, if_pos (show nI 15 = 15 from rfl)]
    · refine ⟨-1000000002, σ, σ, ?_, ?_, h⟩
      · by_cases c1 : q < 0
        · rw [if_pos c1]
        · rw [if_neg c1, if_neg (fun z => c2 ⟨bq_nlt.mp c1, z⟩)]
      · unfold mX11_write
        rw [rf_isDrinker hH.1 sp_ag.rf, if_pos c, Option.bind_some, rf_in (b := 0) (c := 20) (by decide +kernel) (by decide +kernel), Option.bind_some, if_neg bq_10, if_neg c2, if_pos bq_00]
  · rw [if_neg c, if_pos bq_00]
    refine ⟨_, σ, σ, rfl, ?_, h⟩
    unfold mX11_write
    rw [rf_isDrinker hH.1 sp_ag.rf, if_neg c, Option.bind_some, if_pos bq_00]
theorem st_tear (h : in_all σ) : ∃ r σ1 σ2, mX10_tear σ = some (r, σ1) ∧ mX11_tear σ1 = some (r, σ2) ∧ in_all σ2 := by
  obtain ⟨D, G, S, X, g, hH, hN, r1, r2, r3, r4, ⟨w, w1, w2, w3, w4⟩, ⟨v, v1, v2, v3, v4⟩⟩ := id h
  obtain ⟨s1, hs1⟩ : ∃ s1, s1 = bo_up (bo_up σ 24 4 0) 29 2 0 := ⟨_, rfl⟩
  obtain ⟨s2, hs2⟩ : ∃ s2, s2 = bo_up (bo_up s1 135 44 0) 135 49 0 := ⟨_, rfl⟩
  have ro1 : ∀ a' b', ¬ (a' = 24 ∧ b' = 4) → ¬ (a' = 29 ∧ b' = 2) → s1 a' b' = σ a' b' := fun a' b' z1 z2 => by
    rw [hs1, bq_up, if_neg z2, bq_up, if_neg z1]
  have ro : ∀ a' b', ¬ (a' = 24 ∧ b' = 4) → ¬ (a' = 29 ∧ b' = 2) → ¬ (a' = 135 ∧ b' = 44) → ¬ (a' = 135 ∧ b' = 49) → s2 a' b' = σ a' b' := fun a' b' z1 z2 z3 z4 => by
    rw [hs2, bq_up, if_neg z4, bq_up, if_neg z3, ro1 a' b' z1 z2]
  refine ⟨nI w + nI v, s1, s2, ?_, ?_, D, G, S, X, g, hH.fr (fun a b z => ro a b (by omega) (by omega) (by omega) (by omega)), hN.fr (fun a b z => ro a b (by omega) (by omega) (by omega) (by omega)), r1.fr (fun a b z => ro a b (by omega) (by omega) (by omega) (by omega)), r2.fr (fun a b z => ro a b (by omega) (by omega) (by omega) (by omega)), r3.fr (fun a b z => ro a b (by omega) (by omega) (by omega) (by omega)), r4.fr (fun a b z => ro a b (by omega) (by omega) (by omega) (by omega)), ⟨0, by omega, ?_, ?_, fun k hk => absurd hk (Nat.not_lt_zero _)⟩, ⟨0, by omega, ?_, ?_, fun k hk => absurd hk (Nat.not_lt_zero _)⟩⟩
  · unfold mX10_tear
    rw [Option.bind_some, Option.bind_some, w2, v2, hs1]
  · unfold mX11_tear
    rw [Option.bind_some, Option.bind_some, ro1 135 44 (by decide) (by decide), ro1 135 49 (by decide) (by decide), w3, v3, hs2]
  · rw [hs2, bq_up_o (by decide), bq_up_o (by decide), hs1, bq_up_o (by decide), bq_up_s]; rfl
  · rw [hs2, bq_up, if_neg (by decide), bq_up_s]; rfl
  · rw [hs2, bq_up_o (by decide), bq_up_o (by decide), hs1, bq_up_s]; rfl
  · rw [hs2, bq_up_s]; rfl
theorem st_seed (h : in_all σ) (p : Int32) : ∃ r σ1 σ2, mX10_seed σ p = some (r, σ1) ∧ mX11_seed σ1 p = some (r, σ2) ∧ in_all σ2 := by
  obtain ⟨D, G, S, X, g, hH, hN, r1, ⟨s1, s2⟩, r3, r4, r5, r6⟩ := id h
  unfold mX10_seed
  by_cases c : 0 ≤ p
  · rw [if_pos c]
    have ro : ∀ a' b', ¬ (a' = 0 ∧ b' = 11) → ¬ (a' = 135 ∧ b' = 17) → bo_up (bo_up σ 0 11 p) 135 17 p a' b' = σ a' b' := fun a' b' z1 z2 => by
      rw [bq_up, if_neg z2, bq_up, if_neg z1]
    refine ⟨σ 0 11, bo_up σ 0 11 p, bo_up (bo_up σ 0 11 p) 135 17 p, rfl, ?_, D, G, S, X, g, hH.fr (fun a b z => ro a b (by omega) (by omega)), hN.fr (fun a b z => ro a b (by omega) (by omega)), r1.fr (fun a b z => ro a b (by omega) (by omega)), ⟨?_, ?_⟩, r3.fr (fun a b z => ro a b (by omega) (by omega)), r4.fr (fun a b z => ro a b (by omega) (by omega)), r5.fr (fun a b z => ro a b (by omega) (by omega)), r6.fr (fun a b z => ro a b (by omega) (by omega))⟩
    · unfold mX11_seed
      rw [if_pos c, Option.bind_some, bq_up_o (by decide), s1]
    · rw [bq_up_s, bq_up_o (by decide), bq_up_s]
    · rw [bq_up_o (by decide), bq_up_s]; exact c
  · rw [if_neg c]
    refine ⟨_, σ, σ, rfl, ?_, h⟩
    unfold mX11_seed
    rw [if_neg c]
end FRAMES
