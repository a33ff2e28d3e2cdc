/-! the sixteen that are remembered -/
section PAST
variable {σ σ' : bo_M} {D G S X g u : Nat} {V : Nat → Int32} {π : Nat → Nat}
def sp_q (u : Nat) : Nat := min u 15
def sp_d (u : Nat) : Nat := if u = 16 then 1 else 0
theorem bq_ev {c : Nat} (h : c < 16) : bo_ev (nI c) = 55 + 5 * c := by
  unfold bo_ev
  rw [nI_clamp (by omega), Nat.mod_eq_of_lt h]
theorem cl_lose (hu : u ≤ 16) (h3 : σ 3 1 = nI u) (h4 : ∀ i, i < 16 → σ 4 i = nI (π i) ∧ π i < 16) (hi : ∀ i j, i < 16 → j < 16 → π i = π j → i = j) :
    ∃ (a1 : bo_M) (π' : Nat → Nat), (if σ 3 1 < 16 then some σ else (mX6_loseOldest σ).bind fun σ2 => some σ2) = some a1 ∧ (∀ a b, ¬ (a = 4) → ¬ (a = 3 ∧ b = 1) → a1 a b = σ a b) ∧ a1 3 1 = nI (sp_q u) ∧
      (∀ i, i < 16 → a1 4 i = nI (π' i) ∧ π' i < 16) ∧ (∀ i j, i < 16 → j < 16 → π' i = π' j → i = j) ∧ ∀ i, i < sp_q u → π' i = π (i + sp_d u) := by
  unfold sp_q sp_d
  by_cases c : u < 16
  · refine ⟨σ, π, ?_, fun a b _ _ => rfl, by rw [h3, Nat.min_eq_left (by omega)], h4, hi, fun i hi => ?_⟩
    · rw [h3, if_pos (show nI u < 16 from nI_lt (b := 16) c (by decide))]
    · rw [if_neg (by omega), Nat.add_zero]
  · have e : u = 16 := by omega
    subst e
    rw [h3, if_neg (show ¬ nI 16 < 16 by decide)]
    obtain ⟨s, x1, x2, x3⟩ := bq_inv (fun n s k => mX6_loseOldest_L2 n (nI (k + 1)) s) 15 (fun k s => (∀ a, a ≠ 4 → s a = σ a) ∧ ∀ j, s 4 j = if j < k then σ 4 (j + 1) else if j = k then σ 4 0 else σ 4 j) (fun s => (∀ a, a ≠ 4 → s a = σ a) ∧ ∀ j, s 4 j = if j < 15 then σ 4 (j + 1) else if j = 15 then σ 4 0 else σ 4 j) (by
      intro n k s hk ⟨a1, a2⟩
      by_cases z : k = 15
      · subst z
        exact Or.inl ⟨s, by simp only [mX6_loseOldest_L2]; rw [if_pos (show (16 : Int32) ≤ nI 16 from Int32.le_refl _)], a1, a2⟩
      · refine Or.inr ⟨by omega, bo_up (bo_up s 4 k (σ 4 (k + 1))) 4 (k + 1) (σ 4 0), ⟨fun a ha => by rw [bq_up_o ha, bq_up_o ha]; exact a1 a ha, fun j => ?_⟩, ?_⟩
        · rw [bq_up]
          by_cases y : j = k + 1
          · rw [if_pos ⟨rfl, y⟩, if_neg (show ¬ j < k + 1 by omega), if_pos y]
          · rw [if_neg (fun z => y z.2), bq_up]
            by_cases y1 : j = k
            · rw [if_pos ⟨rfl, y1⟩, if_pos (show j < k + 1 by omega), y1]
            · rw [if_neg (fun z => y1 z.2), a2 j]
              by_cases y2 : j < k
              · rw [if_pos y2, if_pos (show j < k + 1 by omega)]
              · rw [if_neg y2, if_neg y1, if_neg (show ¬ j < k + 1 by omega), if_neg y]
        · have e0 : s 4 k = σ 4 0 := by rw [a2 k, if_neg (Nat.lt_irrefl k), if_pos rfl]
          have e1 : s 4 (k + 1) = σ 4 (k + 1) := by rw [a2 (k + 1), if_neg (show ¬ k + 1 < k by omega), if_neg (show ¬ k + 1 = k by omega)]
          simp only [mX6_loseOldest_L2]
          rw [if_neg (show ¬ (16 : Int32) ≤ nI (k + 1) from nI_ge (b := 16) (by omega) (by decide)), nI_pred, bq_ld (by omega) (by decide), Option.bind_some, bq_ld (by omega) (by decide), Option.bind_some, bq_st (by omega) (by decide), Option.bind_some, bq_st (by omega) (by decide), Option.bind_some, e0, e1, nI_1]) bo_fuel 0 σ (Nat.zero_le _) (bq_fuel (by omega)) ⟨fun _ _ => rfl, fun j => by
        rw [if_neg (Nat.not_lt_zero j)]
        by_cases y : j = 0
        · rw [if_pos y, y]
        · rw [if_neg y]⟩
    refine ⟨bo_up s 3 1 (nI 15), fun i => if i = 15 then π 0 else π (i + 1), ?_, ?_, bq_up_s, fun i hi16 => ?_, fun i j hi16 hj => ?_, fun i hi15 => ?_⟩
    · unfold mX6_loseOldest
      rw [show mX6_loseOldest_L2 bo_fuel 1 σ = some s from x1, Option.bind_some, Option.bind_some, Option.bind_some, x2 3 (by decide), h3]
      rfl
    · intro a b z1 z2
      rw [bq_up, if_neg z2, x2 a z1]
    · rw [bq_up_o (by decide), x3]
      dsimp only
      by_cases z : i = 15
      · rw [if_neg (show ¬ i < 15 by omega), if_pos z, if_pos z]
        exact h4 0 (by omega)
      · rw [if_pos (show i < 15 by omega), if_neg z]
        exact h4 (i + 1) (by omega)
    · dsimp only
      intro h
      by_cases z : i = 15
      · rw [if_pos z] at h
        by_cases y : j = 15
        · omega
        · rw [if_neg y] at h
          have := hi _ _ (by omega) (by omega) h
          omega
      · rw [if_neg z] at h
        by_cases y : j = 15
        · rw [if_pos y] at h
          have := hi _ _ (by omega) (by omega) h
          omega
        · rw [if_neg y] at h
          have := hi _ _ (by omega) (by omega) h
          omega
    · dsimp only
      rw [if_neg (by omega), if_pos rfl]
theorem cl_note (hu : u ≤ 16) (h3 : σ 3 1 = nI u) (h4 : ∀ i, i < 16 → σ 4 i = nI (π i) ∧ π i < 16) (hi : ∀ i j, i < 16 → j < 16 → π i = π j → i = j) (hR : sp_rep σ 50 D V g) :
    ∃ (σ1 : bo_M) (π' : Nat → Nat), mX6_note σ 50 = some σ1 ∧ (∀ a b, ¬ (a = 4) → ¬ (a = 3 ∧ b = 1) → ¬ (55 ≤ a ∧ a ≤ 134) → σ1 a b = σ a b) ∧ σ1 3 1 = nI (sp_q u + 1) ∧
      (∀ i, i < 16 → σ1 4 i = nI (π' i) ∧ π' i < 16) ∧ (∀ i j, i < 16 → j < 16 → π' i = π' j → i = j) ∧ (∀ i, i < sp_q u → π' i = π (i + sp_d u)) ∧
      (∀ i, i < sp_q u → ∀ a, 55 + 5 * π' i ≤ a → a ≤ 55 + 5 * π' i + 4 → σ1 a = σ a) ∧ sp_rep σ1 (55 + 5 * π' (sp_q u)) D V g := by
  obtain ⟨a1, π', x1, x2, x3, x4, x5, x6⟩ := cl_lose hu h3 h4 hi
  have hq : sp_q u ≤ 15 := by unfold sp_q; omega
  obtain ⟨y1, y2⟩ := x4 (sp_q u) (by omega)
  obtain ⟨s, z1, z2, z3⟩ := cl_become (σ := a1) (e := 55 + 5 * π' (sp_q u)) (r := 50) (hR.to (fun a h1 h2 => funext fun b => x2 a b (by omega) (by omega))) (by omega)
  refine ⟨bo_up s 3 1 (nI (sp_q u + 1)), π', ?_, ?_, bq_up_s, ?_, x5, x6, ?_, ?_⟩
  · unfold mX6_note
    rw [x1, Option.bind_some, x3]
    unfold mX6_evening
    rw [if_neg (nI_pos (by omega)), if_neg (show ¬ (16 : Int32) ≤ nI (sp_q u) from nI_ge (b := 16) (by omega) (by decide)), bq_ld (by omega) (by decide), Option.bind_some, Option.bind_some, y1]
    show ((mX2_become a1 (bo_ev (nI (π' (sp_q u)))) 50).bind _) = _
    rw [bq_ev y2, z1, Option.bind_some, Option.bind_some, z2 3 (by omega), x3, nI_1]
  · intro a b h1 h2 h3
    rw [bq_up, if_neg h2, z2 a (by omega), x2 a b h1 h2]
  · intro i hi16
    rw [bq_up_o (by decide), z2 4 (by omega)]
    exact x4 i hi16
  · intro i hiq a h1 h2
    have hne : π' i ≠ π' (sp_q u) := fun h => by
      have := x5 i (sp_q u) (by omega) (by omega) h
      omega
    have := (x4 i (by omega)).2
    rw [bq_up_o (by omega), z2 a (by omega)]
    exact funext fun b => x2 a b (by omega) (by omega)
  · exact z3.to (fun a h1 h2 => bq_up_o (by omega))
theorem rf_remember (hu : u ≤ 16) (h38 : σ 135 38 = nI u) :
    ∃ σ', mX11_remember σ = some σ' ∧ (∀ a b, ¬ (a = 155) → ¬ (a = 135 ∧ b = 38) → σ' a b = σ a b) ∧ σ' 135 38 = nI (sp_q u + 1) ∧
      (∀ i, i < sp_q u → ∀ k, k < 107 → σ' 155 (107 * i + k) = σ 155 (107 * (i + sp_d u) + k)) ∧ ∀ k, k < 107 → σ' 155 (107 * sp_q u + k) = σ 144 k := by
  have hq : sp_q u ≤ 15 := by unfold sp_q; omega
  have step1 : ∃ a1, (if σ 135 38 = 16 then (mX11_remember_L12 bo_fuel 107 σ).bind fun a4 => (some (bo_up a4 135 38 ((a4 135 38) - 1))).bind fun σ5 => some σ5 else some σ) = some a1 ∧ (∀ a b, ¬ (a = 155) → ¬ (a = 135 ∧ b = 38) → a1 a b = σ a b) ∧ a1 135 38 = nI (sp_q u) ∧
      ∀ i, i < sp_q u → ∀ k, k < 107 → a1 155 (107 * i + k) = σ 155 (107 * (i + sp_d u) + k) := by
    unfold sp_q sp_d
    by_cases c : u = 16
    · subst c
      obtain ⟨s, x1, x2, x3⟩ := bq_inv (fun n s k => mX11_remember_L12 n (nI (k + 107)) s) 1605 (fun k s => (∀ a, a ≠ 155 → s a = σ a) ∧ ∀ j, s 155 j = if j < k then σ 155 (j + 107) else σ 155 j) (fun s => (∀ a, a ≠ 155 → s a = σ a) ∧ ∀ j, s 155 j = if j < 1605 then σ 155 (j + 107) else σ 155 j) (by
        intro n k s hk ⟨a1, a2⟩
        by_cases z : k = 1605
        · subst z
          exact Or.inl ⟨s, by simp only [mX11_remember_L12]; rw [if_pos (show (1712 : Int32) ≤ nI 1712 from Int32.le_refl _)], a1, a2⟩
        · refine Or.inr ⟨by omega, bo_up s 155 k (σ 155 (k + 107)), ⟨fun a ha => by rw [bq_up_o ha]; exact a1 a ha, fun j => ?_⟩, ?_⟩
          · rw [bq_up]
            by_cases y : j = k
            · rw [if_pos ⟨rfl, y⟩, if_pos (by omega), y]
            · rw [if_neg (fun z => y z.2), a2 j]
              by_cases y2 : j < k
              · rw [if_pos y2, if_pos (by omega)]
              · rw [if_neg y2, if_neg (by omega)]
          · simp only [mX11_remember_L12]
            rw [if_neg (show ¬ (1712 : Int32) ≤ nI (k + 107) from nI_ge (b := 1712) (by omega) (by decide)), bq_ld (by omega) (by decide), Option.bind_some, show nI (k + 107) - 107 = nI k from by rw [show (107 : Int32) = nI 107 from rfl, pk_sub (by omega), Nat.add_sub_cancel], bq_st (by omega) (by decide), Option.bind_some, a2 (k + 107), if_neg (by omega), nI_1, show k + 107 + 1 = k + 1 + 107 by omega]) bo_fuel 0 σ (Nat.zero_le _) (bq_fuel (by omega)) ⟨fun _ _ => rfl, fun j => by rw [if_neg (Nat.not_lt_zero j)]⟩
      refine ⟨bo_up s 135 38 (nI 15), ?_, ?_, bq_up_s, fun i hi k hk => ?_⟩
      · rw [h38, if_pos (show nI 16 = 16 from rfl), show mX11_remember_L12 bo_fuel 107 σ = some s from x1, Option.bind_some, Option.bind_some, x2 135 (by decide), h38]
        rfl
      · intro a b z1 z2
        rw [bq_up, if_neg z2, x2 a z1]
      · rw [bq_up_o (by decide), x3, if_pos (by omega), if_pos rfl]
        congr 1
        omega
    · refine ⟨σ, ?_, fun _ _ _ _ => rfl, by rw [h38, Nat.min_eq_left (by omega)], fun i hi k hk => ?_⟩
      · rw [h38, if_neg (show ¬ nI u = 16 from fun z => c ((nI_eq (b := 16) (by omega) (by decide)).mp z))]
      · rw [if_neg c, Nat.add_zero]
  obtain ⟨a1, x1, x2, x3, x4⟩ := step1
  obtain ⟨s, y1, y2, y3⟩ := bq_inv (fun n s k => mX11_remember_L52 n (nI k) s) 107 (fun k s => (∀ a, a ≠ 155 → s a = a1 a) ∧ ∀ j, s 155 j = if 107 * sp_q u ≤ j ∧ j < 107 * sp_q u + k then σ 144 (j - 107 * sp_q u) else a1 155 j) (fun s => (∀ a, a ≠ 155 → s a = a1 a) ∧ ∀ j, s 155 j = if 107 * sp_q u ≤ j ∧ j < 107 * sp_q u + 107 then σ 144 (j - 107 * sp_q u) else a1 155 j) (by
    intro n k s hk ⟨b1, b2⟩
    by_cases z : k = 107
    · subst z
      exact Or.inl ⟨s, by simp only [mX11_remember_L52]; rw [if_pos (show (107 : Int32) ≤ nI 107 from Int32.le_refl _)], b1, b2⟩
    · refine Or.inr ⟨by omega, bo_up s 155 (107 * sp_q u + k) (σ 144 k), ⟨fun a ha => by rw [bq_up_o ha]; exact b1 a ha, fun j => ?_⟩, ?_⟩
      · rw [bq_up, b2 j]
        by_cases y : j = 107 * sp_q u + k
        · rw [if_pos ⟨rfl, y⟩, if_pos (by omega)]
          congr 1
          omega
        · rw [if_neg (fun z => y z.2)]
          by_cases y2 : 107 * sp_q u ≤ j ∧ j < 107 * sp_q u + k
          · rw [if_pos y2, if_pos (by omega)]
          · rw [if_neg y2, if_neg (by omega)]
      · simp only [mX11_remember_L52]
        rw [if_neg (show ¬ (107 : Int32) ≤ nI k from nI_ge (b := 107) (by omega) (by decide)), bq_ld (by omega) (by decide), Option.bind_some, b1 135 (by decide), x3, show (107 : Int32) = nI 107 from rfl, pk_mul, nI_add, bq_st (by omega) (by decide), Option.bind_some, b1 144 (by decide), show a1 144 k = σ 144 k from x2 144 k (by decide) (by omega), nI_1]) bo_fuel 0 a1 (Nat.zero_le _) (bq_fuel (by omega)) ⟨fun _ _ => rfl, fun j => by rw [if_neg (by omega)]⟩
  refine ⟨bo_up s 135 38 (nI (sp_q u + 1)), ?_, ?_, bq_up_s, fun i hi k hk => ?_, fun k hk => ?_⟩
  · unfold mX11_remember
    rw [x1, Option.bind_some, show mX11_remember_L52 bo_fuel 0 a1 = some s from y1, Option.bind_some, Option.bind_some, y2 135 (by decide), x3, nI_1]
  · intro a b z1 z2
    rw [bq_up, if_neg z2, y2 a z1, x2 a b z1 z2]
  · rw [bq_up_o (by decide), y3, if_neg (by omega), x4 i hi k hk]
  · rw [bq_up_o (by decide), y3, if_pos (by omega)]
    congr 1
    omega
/-- what stands behind each writer: the class's note, its change of 'now', the reference's note, its change of 'now' -/
theorem wr_frame (hH : in_house σ D G S X) (hN : in_now σ D g) (hR : in_rest σ D) : ∃ σ1, mX6_note σ 50 = some σ1 ∧ (∀ a b, ¬ (a = 4) → ¬ (a = 3 ∧ b = 1) → ¬ (55 ≤ a ∧ a ≤ 134) → σ1 a b = σ a b) ∧
    ∀ σ2, (∀ a b, ¬ (50 ≤ a ∧ a ≤ 54) → ¬ (a = 0 ∧ b = 11) → σ2 a b = σ1 a b) → ∃ σ3, mX11_remember σ2 = some σ3 ∧ (∀ a b, ¬ (a = 155) → ¬ (a = 135 ∧ b = 38) → σ3 a b = σ2 a b) ∧
      ∀ σ4 g', (∀ a b, ¬ (a = 144) → ¬ (a = 135 ∧ b = 17) → σ4 a b = σ3 a b) → in_now σ4 D g' → in_seed σ4 → in_all σ4 := by
  obtain ⟨r1, r2, ⟨u, π, p1, p2, p3, p4, p5, p6⟩, r4, r5, r6⟩ := hR
  have h7 := hH.1.nD.2
  have hq : sp_q u ≤ 15 := by unfold sp_q; omega
  have hqd : ∀ i, i < sp_q u → i + sp_d u < u := by intro i; unfold sp_q sp_d; split <;> omega
  obtain ⟨σ1, π', x1, x2, x3, x4, x5, x6, x7, x8⟩ := cl_note p1 p2 p4 p5 hN.2
  refine ⟨σ1, x1, x2, fun σ2 hs2 => ?_⟩
  obtain ⟨σ3, y1, y2, y3, y4, y5⟩ := rf_remember (σ := σ2) p1 (by rw [hs2 135 38 (by omega) (by omega), x2 135 38 (by omega) (by omega) (by omega)]; exact p3)
  refine ⟨σ3, y1, y2, fun σ4 g' hs4 hN' hS' => ?_⟩
  have ro : ∀ a b, ¬ (a = 4) → ¬ (a = 3 ∧ b = 1) → ¬ (55 ≤ a ∧ a ≤ 134) → ¬ (50 ≤ a ∧ a ≤ 54) → ¬ (a = 0 ∧ b = 11) → ¬ (a = 155) → ¬ (a = 135 ∧ b = 38) → ¬ (a = 144) → ¬ (a = 135 ∧ b = 17) → σ4 a b = σ a b := fun a b z1 z2 z3 z4 z5 z6 z7 z8 z9 => by
    rw [hs4 a b z8 z9, y2 a b z6 z7, hs2 a b z4 z5, x2 a b z1 z2 z3]
  have c1 : ∀ a b, (a = 4 ∨ (a = 3 ∧ b = 1) ∨ (55 ≤ a ∧ a ≤ 134)) → σ4 a b = σ1 a b := fun a b z => by
    rw [hs4 a b (by omega) (by omega), y2 a b (by omega) (by omega), hs2 a b (by omega) (by omega)]
  refine ⟨D, G, S, X, g', hH.fr (fun a b z => ro a b (by omega) (by omega) (by omega) (by omega) (by omega) (by omega) (by omega) (by omega) (by omega)), hN', r1.fr (fun a b z => ro a b (by omega) (by omega) (by omega) (by omega) (by omega) (by omega) (by omega) (by omega) (by omega)), hS', ?_, r4.fr (fun a b z => ro a b (by omega) (by omega) (by omega) (by omega) (by omega) (by omega) (by omega) (by omega) (by omega)), r5.fr (fun a b z => ro a b (by omega) (by omega) (by omega) (by omega) (by omega) (by omega) (by omega) (by omega) (by omega)), r6.fr (fun a b z => ro a b (by omega) (by omega) (by omega) (by omega) (by omega) (by omega) (by omega) (by omega) (by omega))⟩
  refine ⟨sp_q u + 1, π', by omega, by rw [c1 3 1 (by omega), x3], by rw [hs4 135 38 (by omega) (by omega), y3], fun i hi => by rw [c1 4 i (by omega)]; exact x4 i hi, x5, fun i hi => ?_⟩
  have hpi := (x4 i (by omega)).2
  by_cases z : i < sp_q u
  · obtain ⟨g0, w1, w2⟩ := p6 (i + sp_d u) (hqd i z)
    rw [← x6 i z] at w2
    have eU : ∀ j, j < 107 → σ4 155 (107 * i + j) = σ 155 (107 * (i + sp_d u) + j) := fun j hj => by
      rw [hs4 155 _ (by omega) (by omega), y4 i z j hj, hs2 155 _ (by omega) (by omega), x2 155 _ (by omega) (by omega) (by omega)]
    refine ⟨g0, w1.cong eU, (sp_rep.cong h7 w2 eU).to (fun a h1 h2 => ?_)⟩
    rw [← x7 i z a h1 h2]
    exact funext fun b => c1 a b (by omega)
  · have e : i = sp_q u := by omega
    subst e
    have eU : ∀ j, j < 107 → σ4 155 (107 * sp_q u + j) = σ 144 j := fun j hj => by
      rw [hs4 155 _ (by omega) (by omega), y5 j hj, hs2 144 _ (by omega) (by omega), x2 144 _ (by omega) (by omega) (by omega)]
    exact ⟨g, hN.1.cong eU, (sp_rep.cong h7 x8 eU).to (fun a h1 h2 => funext fun b => c1 a b (by omega))⟩
end PAST
