/-! odds -/
section ODD
variable {σ s : bo_M} {D G S X g : Nat}
def sp_stp (c : Int32) (k : Nat) (f : Nat → Int32) : Nat → Int32 := fun j => if j = k then f k - f k * c / 100 else if j = k + 1 then f (k + 1) + f k * c / 100 else f j
def sp_lift (c : Int32) : Nat → (Nat → Int32) → Nat → Int32
  | 0, f => f
  | k + 1, f => sp_lift c k (sp_stp c k f)
theorem sp_lift_cong {c : Int32} : ∀ {k : Nat} {f f' : Nat → Int32}, k ≤ 7 → (∀ j, j < 8 → f j = f' j) → ∀ j, j < 8 → sp_lift c k f j = sp_lift c k f' j
  | 0, _, _, _, h, j, hj => h j hj
  | k + 1, f, f', hk, h, j, hj => by
    refine sp_lift_cong (k := k) (f := sp_stp c k f) (f' := sp_stp c k f') (by omega) (fun i hi => ?_) j hj
    unfold sp_stp
    rw [h k (by omega), h (k + 1) (by omega), h i hi]
def sp_odd (N : bo_M) (V : Nat → Int32) (f : Nat → Int32) : Nat → Nat → Int32
  | 0 => f
  | k + 1 => if sp_ring N V k then sp_lift (N 138 k) 7 (sp_odd N V f k) else sp_odd N V f k
theorem sp_odd_cong {N : bo_M} {V f f' : Nat → Int32} (h : ∀ j, j < 8 → f j = f' j) : ∀ (k j : Nat), j < 8 → sp_odd N V f k j = sp_odd N V f' k j
  | 0, j, hj => h j hj
  | k + 1, j, hj => by
    unfold sp_odd
    split
    · exact sp_lift_cong (Nat.le_refl _) (fun i hi => sp_odd_cong h k i hi) j hj
    · exact sp_odd_cong h k j hj
def sp_ab (f : Nat → Int32) (p : Nat) : Nat → Int32
  | 0 => 0
  | k + 1 => sp_ab f p k + (if k < p then 0 else f k)
theorem sp_ab_0 {f : Nat → Int32} {p : Nat} : ∀ {k : Nat}, k ≤ p → sp_ab f p k = 0
  | 0, _ => rfl
  | k + 1, h => by
    unfold sp_ab
    rw [sp_ab_0 (k := k) (by omega), if_pos (by omega)]
    rfl
theorem bq_lift {o : Nat} {c : Int32} (s : bo_M) (k : Nat) (hk : k < 7) :
    bo_up (bo_up s o k (s o k - s o k * c / 100)) o (k + 1) (bo_up s o k (s o k - s o k * c / 100) o (k + 1) + s o k * c / 100) = fun a => if a = o then sp_stp c k (s o) else s a := by
  funext a b
  rw [bq_up, bq_up, bq_up]
  by_cases h : a = o
  · subst h
    rw [if_pos rfl]
    unfold sp_stp
    by_cases h1 : b = k + 1
    · subst h1
      rw [if_pos ⟨rfl, rfl⟩, if_neg (show ¬ (a = a ∧ k + 1 = k) from fun z => by omega), if_neg (show ¬ k + 1 = k by omega), if_pos rfl]
    · rw [if_neg (fun z => h1 z.2)]
      by_cases h2 : b = k
      · rw [if_pos ⟨rfl, h2⟩, if_pos h2]
      · rw [if_neg (fun z => h2 z.2), if_neg h2, if_neg h1]
  · rw [if_neg (fun z => h z.1), if_neg (fun z => h z.1), if_neg h]
theorem cl_lift (c : Int32) : ∀ (n k : Nat) (s : bo_M), k ≤ 7 → k < n → mX1_lift_L3 c n (nI k - 1) s = some (fun a => if a = 33 then sp_lift c k (s 33) else s a) := by
  intro n
  induction n with
  | zero => intro k s _ h; omega
  | succ n ih =>
    intro k s hk hn
    simp only [mX1_lift_L3]
    by_cases h0 : k = 0
    · subst h0
      rw [if_pos (by decide)]
      congr 1
      funext a
      by_cases h : a = 33
      · subst h; rfl
      · rw [if_neg h]
    · obtain ⟨j, rfl⟩ : ∃ j, k = j + 1 := ⟨k - 1, by omega⟩
      rw [nI_pred, if_neg (nI_pos (by omega)), bq_at (by omega) (by decide), Option.bind_some, Option.bind_some, bq_put (by omega) (by decide), Option.bind_some, nI_1, bq_at (by omega) (by decide), Option.bind_some, bq_put (by omega) (by decide), Option.bind_some, bq_lift s j (by omega), show nI j + (-1) = nI j - 1 from (Int32.sub_eq_add_neg _ _).symm, ih j _ (by omega) (by omega)]
      congr 1
      funext a
      by_cases h : a = 33
      · subst h; rfl
      · simp only [if_neg h]
theorem rf_lift (x : Int32) (hE : sp_env σ D G S X) {d : Nat} (hd : d < D) : ∀ (n k : Nat) (s : bo_M), sp_ag s σ → k ≤ 7 → k < n → mX11_odds_L69 x (nI d) n (nI k - 1) s = some (fun a => if a = 159 then (if sp_ring σ (s 144) d then sp_lift (σ 138 d) k (s 159) else s 159) else s a) := by
  have h7 := hE.nD.2
  intro n
  induction n with
  | zero => intro k s _ _ h; omega
  | succ n ih =>
    intro k s hA hk hn
    simp only [mX11_odds_L69]
    by_cases h0 : k = 0
    · subst h0
      rw [if_pos (by decide)]
      congr 1
      funext a
      by_cases h : a = 159
      · subst h; simp [sp_lift]
      · rw [if_neg h]
    · obtain ⟨j, rfl⟩ : ∃ j, k = j + 1 := ⟨k - 1, by omega⟩
      rw [nI_pred, if_neg (nI_pos (by omega)), rf_ring hA hE hd, Option.bind_some]
      cases hr : sp_ring σ (s 144) d with
      | false =>
        rw [if_pos (by rfl)]
        congr 1
        funext a
        by_cases h : a = 159
        · subst h; rfl
        · rw [if_neg h]
      | true =>
        rw [if_neg (by decide), bq_ld (by omega) (by decide), Option.bind_some, bq_ld (by omega) (by decide), Option.bind_some, Option.bind_some, bq_st (by omega) (by decide), Option.bind_some, nI_1, bq_ld (by omega) (by decide), Option.bind_some, bq_st (by omega) (by decide), Option.bind_some, show s 138 d = σ 138 d from hA.2 138 (by decide) (by decide) d, bq_lift s j (by omega), show nI j + (-1) = nI j - 1 from (Int32.sub_eq_add_neg _ _).symm, ih j _ (hA.to (fun a _ _ => by rw [if_neg (by omega)])) (by omega) (by omega)]
        congr 1
        funext a
        by_cases h : a = 159
        · subst h
          simp only [if_true]
          rw [if_neg (show ¬ 144 = 159 by decide), hr]
          rfl
        · simp only [if_neg h]
theorem st_odds (h : in_all σ) (p : Int32) : ∃ r σ1 σ2, mX10_odds σ p = some (r, σ1) ∧ mX11_odds σ1 p = some (r, σ2) ∧ in_all σ2 := by
  obtain ⟨D, G, S, X, g, hH, hN, hR⟩ := id h
  have h7 := hH.1.nD.2
  refine pre_WW (fm := fun s => mX11_odds s p) h (0 ≤ p ∧ p ≤ 16) (by unfold mX10_odds; rw [cl_rng, cl_preW hH]) (fun c => ?_) (fun c ho => ?_) (fun c ho => ?_)
  · unfold mX11_odds
    rw [rf_in (b := 0) (c := 16) (by decide +kernel) (by decide +kernel), if_neg c]; rfl
  · unfold mX11_odds
    rw [rf_in (b := 0) (c := 16) (by decide +kernel) (by decide +kernel), if_pos c, Option.bind_some, if_neg bq_10, if_pos (sp_open_f ho)]
  · obtain ⟨q, rfl, -, hq⟩ := bq_rng (a := 0) (b := 16) c.1 c.2 (by decide) (by decide)
    -- the class
    obtain ⟨s3, hs3⟩ : ∃ s3, s3 = bo_up (fun a b => if a = 33 ∧ b < 8 then 0 else σ a b) 33 0 1000000 := ⟨_, rfl⟩
    have x1 : mX1_restart σ = some s3 := by
      unfold mX1_restart
      rw [bq_zero (by omega), Option.bind_some, show (0 : Int32) = nI 0 from rfl, bq_put (by omega) (by decide), Option.bind_some, hs3]
      rfl
    have x2 : ∀ a, a ≠ 33 → s3 a = σ a := fun a ha => by
      rw [hs3, bq_up_o ha]
      funext b
      rw [if_neg (fun z => ha z.1)]
    have x3 : ∀ j, j < 8 → s3 33 j = if j = 0 then 1000000 else 0 := fun j hj => by
      rw [hs3, bq_up]
      by_cases z : j = 0
      · rw [if_pos ⟨rfl, z⟩, if_pos z]
      · rw [if_neg (fun y => z y.2), if_neg z, if_pos ⟨rfl, hj⟩]
    have e50 : ∀ a, 50 ≤ a → a ≤ 54 → s3 a = σ a := fun a z1 z2 => x2 a (by omega)
    have hi : ∀ a, bo_inn (σ 0 9) ≤ a → a ≤ bo_inn (σ 0 9) + 7 → s3 a = σ a := fun a z1 z2 => x2 a (by rcases bo_inn_ok (σ 0 9) with z | z <;> omega)
    have x4 := cl_thirsty (hH.2.1.to hi) hH.1 (hN.2.to e50)
    obtain ⟨b, hb, t1, t2⟩ := bq_inv (fun n s k => mX10_odds_L48 (nI q) (nI (sp_set (sp_ring σ (σ 144)) D)) n (nI k) s) D (fun k s => s 33 = sp_odd σ (σ 144) (s3 33) k ∧ ∀ a, a ≠ 33 → s a = σ a) (fun r => r 33 = sp_odd σ (σ 144) (s3 33) D ∧ ∀ a, a ≠ 33 → r a = σ a) (by
      intro n k s hk ⟨a1, a2⟩
      by_cases hkD : k = D
      · subst hkD
        exact Or.inl ⟨s, by simp only [mX10_odds_L48]; rw [a2 0 (by decide), a2 _ (by rcases bo_inn_ok (σ 0 9) with z | z <;> omega), hH.2.1.nD, if_pos (Int32.le_refl _)], a1, a2⟩
      · have hlt : k < D := by omega
        have i33 : bo_inn (σ 0 9) + 3 ≠ 33 := by rcases bo_inn_ok (σ 0 9) with z | z <;> omega
        refine Or.inr ⟨hlt, (fun a => if a = 33 then sp_odd σ (σ 144) (s3 33) (k + 1) else s a), ⟨if_pos rfl, fun a ha => (if_neg ha).trans (a2 a ha)⟩, ?_⟩
        simp only [mX10_odds_L48, mX10_bit]
        rw [a2 0 (by decide), a2 (bo_inn (σ 0 9)) (by rcases bo_inn_ok (σ 0 9) with z | z <;> omega), hH.2.1.nD, if_neg (nI_ge hlt (by omega)), Option.bind_some, bq_bit (Nat.lt_trans (sp_set_127 h7) (by decide)) (by omega), sp_set_bit, bq_at (by omega) (by decide), Option.bind_some, a2 _ i33, (hH.2.1.dr k hlt).2.2, nI_1]
        cases hr : sp_ring σ (σ 144) k with
        | true =>
          rw [if_pos (by simp [hlt]; rfl)]
          unfold mX1_lift
          rw [show (6 : Int32) = nI 7 - 1 from by decide, cl_lift _ bo_fuel 7 s (Nat.le_refl _) (bq_fuel (by omega))]
          simp only [Option.bind_some]
          congr 1
          funext a
          by_cases z : a = 33
          · rw [if_pos z, if_pos z, a1]
            show _ = if sp_ring σ (σ 144) k = true then _ else _
            rw [if_pos hr]
          · rw [if_neg z, if_neg z]
        | false =>
          rw [if_neg (by simp; decide)]
          simp only [Option.bind_some]
          congr 1
          funext a
          by_cases z : a = 33
          · subst z
            rw [if_pos rfl, a1]
            show _ = if sp_ring σ (σ 144) k = true then _ else _
            rw [if_neg (by rw [hr]; decide)]
          · rw [if_neg z]) bo_fuel 0 s3 (Nat.zero_le _) (bq_fuel (by omega)) ⟨rfl, x2⟩
    have x5 : mX1_above b (nI q) = some (sp_ab (b 33) q 8) := by
      unfold mX1_above
      by_cases h8 : q ≤ 8
      · obtain ⟨y, hy, hyq⟩ := bq_inv (fun n a k => mX1_above_L4 b n a (nI k)) 8 (fun k a => q ≤ k ∧ a = sp_ab (b 33) q k) (fun r => r = sp_ab (b 33) q 8) (by
          intro n k a hk ⟨hqk, ha⟩
          subst ha
          by_cases hk8 : k = 8
          · subst hk8
            exact Or.inl ⟨_, by simp only [mX1_above_L4]; rw [if_pos (show (7 : Int32) < nI 8 by decide)], rfl⟩
          · refine Or.inr ⟨by omega, _, ⟨by omega, rfl⟩, ?_⟩
            simp only [mX1_above_L4]
            rw [if_neg (show ¬ (7 : Int32) < nI k from nI_nlt (a := 7) (b := k) (by omega) (by decide)), bq_at (by omega) (by decide), Option.bind_some, nI_1]
            show _ = mX1_above_L4 b n (sp_ab (b 33) q k + (if k < q then 0 else b 33 k)) _
            rw [if_neg (show ¬ k < q by omega)]) bo_fuel q 0 h8 (bq_fuel (by omega)) ⟨Nat.le_refl _, (sp_ab_0 (Nat.le_refl _)).symm⟩
        rw [hy, hyq, Option.bind_some]
      · obtain ⟨n, hn⟩ : ∃ n, bo_fuel = n + 1 := ⟨bo_fuel - 1, by have := bo_fuel_le; omega⟩
        rw [hn]
        simp only [mX1_above_L4]
        rw [if_pos (show (7 : Int32) < nI q from nI_lt (a := 7) (by omega) (by omega)), Option.bind_some, sp_ab_0 (by omega)]
    -- the reference
    have w0 : sp_ag b σ := sp_ag.rf.to (fun a z1 z2 => t2 a (by omega))
    obtain ⟨r3, g1, g2, g3⟩ := bq_inv (fun n s k => mX11_odds_L28 (nI q) n (nI k) s) 8 (fun k s => (∀ j, j < k → s 159 j = 0) ∧ ∀ a, a ≠ 159 → s a = b a) (fun r => (∀ j, j < 8 → r 159 j = 0) ∧ ∀ a, a ≠ 159 → r a = b a) (by
      intro n k s hk ⟨a1, a2⟩
      by_cases hk8 : k = 8
      · subst hk8
        exact Or.inl ⟨s, by simp only [mX11_odds_L28]; rw [if_pos (show (8 : Int32) ≤ nI 8 by decide)], a1, a2⟩
      · refine Or.inr ⟨by omega, bo_up s 159 k 0, ⟨fun j hj => ?_, fun a ha => by rw [bq_up_o ha]; exact a2 a ha⟩, ?_⟩
        · rw [bq_up]
          by_cases z : j = k
          · rw [if_pos ⟨rfl, z⟩]
          · rw [if_neg (fun y => z y.2)]; exact a1 j (by omega)
        · simp only [mX11_odds_L28]
          rw [if_neg (show ¬ (8 : Int32) ≤ nI k from nI_ge (b := 8) (by omega) (by decide)), bq_st (by omega) (by decide), Option.bind_some, nI_1]) bo_fuel 0 b (Nat.zero_le _) (bq_fuel (by omega)) ⟨fun j hj => absurd hj (Nat.not_lt_zero _), fun _ _ => rfl⟩
    obtain ⟨r4, hr4⟩ : ∃ r4, r4 = bo_up r3 159 0 1000000 := ⟨_, rfl⟩
    have y2 : ∀ a, a ≠ 159 → r4 a = b a := fun a ha => by rw [hr4, bq_up_o ha]; exact g3 a ha
    have y3 : ∀ j, j < 8 → r4 159 j = s3 33 j := fun j hj => by
      rw [x3 j hj, hr4, bq_up]
      by_cases z : j = 0
      · rw [if_pos ⟨rfl, z⟩, if_pos z]
      · rw [if_neg (fun y => z y.2), if_neg z]; exact g2 j hj
    have w1 : sp_ag r4 σ := w0.to (fun a z1 z2 => y2 a (by omega))
    have e144 : ∀ s : bo_M, (∀ a, a ≠ 159 → s a = b a) → s 144 = σ 144 := fun s hs => by rw [hs 144 (by decide), t2 144 (by decide)]
    obtain ⟨r5, g4, g5, g6⟩ := bq_inv (fun n s k => mX11_odds_L58 (nI q) n (nI k) s) D (fun k s => s 159 = sp_odd σ (σ 144) (r4 159) k ∧ ∀ a, a ≠ 159 → s a = b a) (fun r => r 159 = sp_odd σ (σ 144) (r4 159) D ∧ ∀ a, a ≠ 159 → r a = b a) (by
      intro n k s hk ⟨a1, a2⟩
      have e135 : s 135 4 = nI D := by rw [a2 135 (by decide), t2 135 (by decide)]; exact hH.1.nD.1
      by_cases hkD : k = D
      · subst hkD
        exact Or.inl ⟨s, by simp only [mX11_odds_L58]; rw [e135, if_pos (Int32.le_refl _)], a1, a2⟩
      · have hlt : k < D := by omega
        refine Or.inr ⟨hlt, (fun a => if a = 159 then sp_odd σ (σ 144) (r4 159) (k + 1) else s a), ⟨if_pos rfl, fun a ha => (if_neg ha).trans (a2 a ha)⟩, ?_⟩
        have hAs : sp_ag s σ := w0.to (fun a z1 z2 => a2 a (by omega))
        simp only [mX11_odds_L58]
        rw [e135, if_neg (nI_ge hlt (by omega)), show (6 : Int32) = nI 7 - 1 from by decide]
        have := rf_lift (nI q) hH.1 hlt bo_fuel 7 s hAs (Nat.le_refl _) (bq_fuel (by omega))
        rw [e144 s a2, a1] at this
        rw [show mX11_odds_L69 (nI q) (nI k) bo_fuel (nI 7 - 1) s = _ from this, Option.bind_some, nI_1]
        rfl) bo_fuel 0 r4 (Nat.zero_le _) (bq_fuel (by omega)) ⟨rfl, y2⟩
    have hab : sp_ab (b 33) q 8 = sp_ab (r5 159) q 8 := by
      have hf : ∀ j, j < 8 → b 33 j = r5 159 j := fun j hj => by
        rw [t1, g5]
        exact sp_odd_cong (fun i hi => (y3 i hi).symm) D j hj
      have : ∀ k, k ≤ 8 → sp_ab (b 33) q k = sp_ab (r5 159) q k := by
        intro k
        induction k with
        | zero => intro _; rfl
        | succ k ih =>
          intro hk
          unfold sp_ab
          rw [ih (by omega), hf k (by omega)]
      exact this 8 (Nat.le_refl _)
    obtain ⟨y, hy, hyq⟩ := bq_inv (fun n a k => mX11_odds_L139 r5 (nI q) n a (nI k)) 8 (fun k a => a = sp_ab (r5 159) q k) (fun r => r = sp_ab (r5 159) q 8) (by
      intro n k a hk ha
      subst ha
      by_cases hk8 : k = 8
      · subst hk8
        exact Or.inl ⟨_, by simp only [mX11_odds_L139]; rw [if_pos (show (8 : Int32) ≤ nI 8 by decide)], rfl⟩
      · refine Or.inr ⟨by omega, _, rfl, ?_⟩
        simp only [mX11_odds_L139]
        rw [if_neg (show ¬ (8 : Int32) ≤ nI k from nI_ge (b := 8) (by omega) (by decide)), bq_ld (by omega) (by decide), Option.bind_some, nI_1]
        show _ = mX11_odds_L139 r5 (nI q) n (sp_ab (r5 159) q k + (if k < q then 0 else r5 159 k)) _
        by_cases z : k < q
        · rw [if_pos (nI_lt z (by omega)), if_pos z, Option.bind_some]
        · rw [if_neg (nI_nlt (by omega) (by omega)), if_neg z, Option.bind_some]) bo_fuel 0 0 (Nat.zero_le _) (bq_fuel (by omega)) rfl
    refine ⟨sp_ab (b 33) q 8, b, r5, ?_, ?_, ?_⟩
    · rw [x1, Option.bind_some, x2 0 (by decide), x4, Option.bind_some, show mX10_odds_L48 (nI q) (nI (sp_set (sp_ring σ (σ 144)) D)) bo_fuel 0 s3 = some b from hb, Option.bind_some, x5, Option.bind_some]
    · show mX11_odds b (nI q) = _
      unfold mX11_odds
      rw [rf_in (b := 0) (c := 16) (by decide +kernel) (by decide +kernel), if_pos c, Option.bind_some, if_neg bq_10, t2 135 (by decide), if_neg (sp_open_t ho), show mX11_odds_L28 (nI q) bo_fuel 0 b = some r3 from g1, Option.bind_some, show (0 : Int32) = nI 0 from rfl, bq_st (by omega) (by decide), Option.bind_some]
      rw [← hr4, show mX11_odds_L58 (nI q) bo_fuel (nI 0) r4 = some r5 from g4, Option.bind_some, show mX11_odds_L139 r5 (nI q) bo_fuel (nI 0) (nI 0) = some y from hy, Option.bind_some, hyq, hab]
    · refine in_all.scr h (fun a b hs => ?_)
      have q1 : a ≠ 33 := fun z => hs (by unfold in_scr; omega)
      have q2 : a ≠ 159 := fun z => hs (by unfold in_scr; omega)
      rw [g6 a q2, t2 a q1]
end ODD
