/-! undo, keep, goBack -/
section UNDO
variable {σ s : bo_M} {D G S X g e B : Nat} {V U : Nat → Int32}
theorem in_past.empty {σ' : bo_M} (h : in_past σ D) (h1 : σ' 3 1 = 0) (h2 : σ' 135 38 = 0) (h4 : ∀ b, σ' 4 b = σ 4 b) : in_past σ' D := by
  obtain ⟨u, π, p1, p2, p3, p4, p5, p6⟩ := h
  exact ⟨0, π, by omega, by rw [h1]; rfl, by rw [h2]; rfl, fun i hi => by rw [h4]; exact p4 i hi, p5, fun i hi => absurd hi (Nat.not_lt_zero _)⟩
/-- a row copied into 144, or out of it -/
theorem rf_cp {L : Nat → Int32 → bo_M → Option bo_M} {a o : Nat} {n0 n1 : Nat} {f q : Nat} (hao : a ≠ o) (ho : o ≠ 135) (hL : ∀ n k t, k < 107 → t 135 = s 135 → L (n + 1) (nI k) t = (bo_ld n0 t a (nI (f + k))).bind fun v => (bo_st n1 t o (nI (q + k)) v).bind fun t' => L n (nI (k + 1)) t') (hL0 : ∀ n t, L (n + 1) (nI 107) t = some t) (h0 : f + 107 ≤ n0) (h1 : q + 107 ≤ n1) (hn0 : n0 < 2 ^ 31) (hn1 : n1 < 2 ^ 31) :
    ∃ t, L bo_fuel 0 s = some t ∧ (∀ b, b ≠ o → t b = s b) ∧ ∀ j, t o j = if q ≤ j ∧ j < q + 107 then s a (f + (j - q)) else s o j := by
  obtain ⟨t, x1, x2, x3⟩ := bq_inv (fun n t k => L n (nI k) t) 107 (fun k t => (∀ b, b ≠ o → t b = s b) ∧ ∀ j, t o j = if q ≤ j ∧ j < q + k then s a (f + (j - q)) else s o j) (fun t => (∀ b, b ≠ o → t b = s b) ∧ ∀ j, t o j = if q ≤ j ∧ j < q + 107 then s a (f + (j - q)) else s o j) (by
    intro n k t hk ⟨a1, a2⟩
    by_cases z : k = 107
    · subst z
      exact Or.inl ⟨t, hL0 n t, a1, a2⟩
    · refine Or.inr ⟨by omega, bo_up t o (q + k) (s a (f + k)), ⟨fun b hb => by rw [bq_up_o hb]; exact a1 b hb, fun j => ?_⟩, ?_⟩
      · rw [bq_up, a2 j]
        by_cases y : j = q + k
        · rw [if_pos ⟨rfl, y⟩, if_pos (by omega), show j - q = k by omega]
        · rw [if_neg (fun z => y z.2)]
          by_cases y2 : q ≤ j ∧ j < q + k
          · rw [if_pos y2, if_pos (by omega)]
          · rw [if_neg y2, if_neg (by omega)]
      · rw [hL n k t (by omega) (a1 135 (Ne.symm ho)), bq_ld (by omega) hn0, Option.bind_some, bq_st (by omega) hn1, Option.bind_some, a1 a hao]) bo_fuel 0 s (Nat.zero_le _) (bq_fuel (by omega)) ⟨fun _ _ => rfl, fun j => by rw [if_neg (by omega)]⟩
  exact ⟨t, x1, x2, x3⟩
theorem st_undo (h : in_all σ) : ∃ r σ1 σ2, mX10_undo σ = some (r, σ1) ∧ mX11_undo σ1 = some (r, σ2) ∧ in_all σ2 := by
  obtain ⟨D, G, S, X, g, hH, hN, r1, r2, ⟨u, π, p1, p2, p3, p4, p5, p6⟩, r4, r5, r6⟩ := id h
  have h7 := hH.1.nD.2
  unfold mX10_undo mX6_restore mX6_evening
  by_cases c : u = 0
  · subst c
    refine ⟨-1000000003, σ, σ, ?_, ?_, h⟩
    · rw [p2, if_pos (show nI 0 - 1 < 0 by decide), Option.bind_some]
      rfl
    · unfold mX11_undo
      rw [p3, if_pos (show nI 0 = 0 from rfl)]
  · obtain ⟨w, rfl⟩ : ∃ w, u = w + 1 := ⟨u - 1, by omega⟩
    obtain ⟨e1, e2⟩ := p4 w (by omega)
    obtain ⟨g', q1, q2⟩ := p6 w (by omega)
    obtain ⟨s1, hs1⟩ : ∃ s1, s1 = bo_up σ 3 1 (nI w) := ⟨_, rfl⟩
    obtain ⟨s2, x1, x2, x3⟩ := cl_become (σ := s1) (e := 50) (r := 55 + 5 * π w) (q2.to (fun a z1 z2 => by rw [hs1, bq_up_o (by omega)])) (by omega)
    have ro2 : ∀ a b, ¬ (50 ≤ a ∧ a ≤ 54) → ¬ (a = 3 ∧ b = 1) → s2 a b = σ a b := fun a b z1 z2 => by rw [x2 a (by omega), hs1, bq_up, if_neg z2]
    obtain ⟨s3, hs3⟩ : ∃ s3, s3 = bo_up s2 135 38 (nI w) := ⟨_, rfl⟩
    obtain ⟨s4, y1, y2, y3⟩ := rf_cp (s := s3) (L := mX11_undo_L23) (a := 155) (o := 144) (n0 := 1712) (n1 := 107) (f := 107 * w) (q := 0) (by decide) (by decide) (by
        intro n k t hk ht
        simp only [mX11_undo_L23]
        rw [if_neg (show ¬ (107 : Int32) ≤ nI k from nI_ge (b := 107) hk (by decide)), ht, hs3, bq_up_s, show (107 : Int32) = nI 107 from rfl, pk_mul, nI_add, nI_1, Nat.zero_add]) (by
        intro n t
        simp only [mX11_undo_L23]
        rw [if_pos (show (107 : Int32) ≤ nI 107 from Int32.le_refl _)]) (by omega) (by omega) (by decide) (by decide)
    have ro : ∀ a b, ¬ (50 ≤ a ∧ a ≤ 54) → ¬ (a = 3 ∧ b = 1) → ¬ (a = 135 ∧ b = 38) → ¬ (a = 144) → s4 a b = σ a b := fun a b z1 z2 z3 z4 => by
      rw [y2 a z4, hs3, bq_up, if_neg z3, ro2 a b z1 z2]
    have e144 : ∀ j, j < 107 → s4 144 j = σ 155 (107 * w + j) := fun j hj => by
      rw [y3 j, if_pos (by omega), hs3, bq_up_o (by decide), Nat.sub_zero]
      exact ro2 155 _ (by omega) (by omega)
    refine ⟨nI w, s2, s4, ?_, ?_, D, G, S, X, g', hH.fr (fun a b z => ro a b (by omega) (by omega) (by omega) (by omega)), ⟨q1.cong e144, ?_⟩, r1.fr (fun a b z => ro a b (by omega) (by omega) (by omega) (by omega)), r2.fr (fun a b z => ro a b (by omega) (by omega) (by omega) (by omega)), ⟨w, π, by omega, ?_, ?_, ?_, p5, ?_⟩, r4.fr (fun a b z => ro a b (by omega) (by omega) (by omega) (by omega)), r5.fr (fun a b z => ro a b (by omega) (by omega) (by omega) (by omega)), r6.fr (fun a b z => ro a b (by omega) (by omega) (by omega) (by omega))⟩
    · rw [p2, nI_pred, if_neg (nI_pos (by omega)), if_neg (show ¬ (16 : Int32) ≤ nI w from nI_ge (b := 16) (by omega) (by decide)), bq_ld (by omega) (by decide), Option.bind_some, e1, Option.bind_some]
      show ((((some (bo_up σ 3 1 (nI w))).bind fun σ2 => (mX2_become σ2 50 (bo_ev (nI (π w)))).bind fun σ3 => some ((1 : Int32), σ3)).bind _)) = _
      rw [Option.bind_some, ← hs1, bq_ev e2, x1, Option.bind_some, Option.bind_some]
      dsimp only
      rw [if_neg bq_10, x2 3 (by omega), hs1, bq_up_s]
    · unfold mX11_undo
      rw [ro2 135 38 (by omega) (by omega), p3, if_neg (fun z => absurd ((bq_eq0 (by omega)).mp z) (by omega)), nI_pred, Option.bind_some, ← hs3, y1, Option.bind_some, y2 135 (by decide), hs3, bq_up_s]
    · exact (sp_rep.cong h7 x3 e144).to (fun a z1 z2 => by rw [y2 a (by omega), hs3, bq_up_o (by omega)])
    · rw [y2 3 (by decide), hs3, bq_up_o (by decide), x2 3 (by omega), hs1, bq_up_s]
    · rw [y2 135 (by decide), hs3, bq_up_s]
    · intro i hi
      rw [ro 4 i (by omega) (by omega) (by omega) (by omega)]
      exact p4 i hi
    · intro i hi
      obtain ⟨g0, z1, z2⟩ := p6 i (by omega)
      have hpi := (p4 i (by omega)).2
      have eU : ∀ j, j < 107 → s4 155 (107 * i + j) = σ 155 (107 * i + j) := fun j hj => ro 155 _ (by omega) (by omega) (by omega) (by omega)
      exact ⟨g0, z1.cong eU, (sp_rep.cong h7 z2 eU).to (fun a h1 h2 => funext fun b => ro a b (by omega) (by omega) (by omega) (by omega))⟩
theorem bq_p01 {p : Int32} : (0 ≤ p ∧ p ≤ 1) ↔ (p = 0 ∨ p = 1) := by
  constructor
  · intro h
    obtain ⟨m, rfl, -, hm⟩ := bq_rng (a := 0) (b := 1) h.1 h.2 (by decide) (by decide)
    rcases (show m = 0 ∨ m = 1 by omega) with z | z <;> subst z
    · exact Or.inl rfl
    · exact Or.inr rfl
  · rintro (rfl | rfl) <;> decide
theorem bq_im {j : Nat} (h : j < 2) : bo_im (nI j) = 5 + 6 * j := by
  rcases (show j = 0 ∨ j = 1 by omega) with z | z <;> subst z <;> decide
theorem cl_image {p : Int32} : mX10_imageOf σ p = some (if 0 ≤ p ∧ p ≤ 1 then some p else none) := by
  unfold mX10_imageOf
  by_cases c : 0 ≤ p ∧ p ≤ 1
  · rw [if_pos c]
    rcases bq_p01.mp c with z | z <;> subst z <;> rfl
  · rw [if_neg c, if_neg (fun z => c (bq_p01.mpr (Or.inl z))), if_neg (fun z => c (bq_p01.mpr (Or.inr z)))]
theorem st_keep (h : in_all σ) (p : Int32) : ∃ r σ1 σ2, mX10_keep σ p = some (r, σ1) ∧ mX11_keep σ1 p = some (r, σ2) ∧ in_all σ2 := by
  obtain ⟨D, G, S, X, g, hH, hN, r1, r2, r3, r4, r5, r6⟩ := id h
  have h7 := hH.1.nD.2
  unfold mX10_keep
  rw [cl_image, Option.bind_some]
  by_cases c : 0 ≤ p ∧ p ≤ 1
  · rw [if_pos c]
    obtain ⟨m, rfl, -, hm⟩ := bq_rng (a := 0) (b := 1) c.1 c.2 (by decide) (by decide)
    obtain ⟨s1, x1, x2, x3⟩ := cl_become (σ := σ) (e := 5 + 6 * m + 1) (r := 50) hN.2 (by omega)
    obtain ⟨s2, hs2⟩ : ∃ s2, s2 = bo_up (bo_up (bo_up s1 (5 + 6 * m) 1 (σ 0 11)) (5 + 6 * m) 2 1) 3 1 0 := ⟨_, rfl⟩
    have ro2 : ∀ a b, ¬ (5 + 6 * m ≤ a ∧ a ≤ 10 + 6 * m) → ¬ (a = 3 ∧ b = 1) → s2 a b = σ a b := fun a b z1 z2 => by
      rw [hs2, bq_up, if_neg z2, bq_up_o (by omega), bq_up_o (by omega), x2 a (by omega)]
    obtain ⟨s3, y1, y2, y3⟩ := rf_cp (s := s2) (L := mX11_keep_L16 (nI m)) (a := 144) (o := 166) (n0 := 107) (n1 := 216) (f := 0) (q := 108 * m) (by decide) (by decide) (by
        intro n k t hk ht
        simp only [mX11_keep_L16]
        rw [if_neg (show ¬ (107 : Int32) ≤ nI k from nI_ge (b := 107) hk (by decide)), show (108 : Int32) = nI 108 from rfl, pk_mul, nI_add, nI_1, Nat.zero_add]) (by
        intro n t
        simp only [mX11_keep_L16]
        rw [if_pos (show (107 : Int32) ≤ nI 107 from Int32.le_refl _)]) (by omega) (by omega) (by decide) (by decide)
    obtain ⟨s4, hs4⟩ : ∃ s4, s4 = bo_up (bo_up (bo_up s3 166 (108 * m + 107) (σ 135 17)) 167 m 1) 135 38 0 := ⟨_, rfl⟩
    have ro : ∀ a b, ¬ (5 + 6 * m ≤ a ∧ a ≤ 10 + 6 * m) → ¬ (a = 3 ∧ b = 1) → ¬ (a = 166) → ¬ (a = 167 ∧ b = m) → ¬ (a = 135 ∧ b = 38) → s4 a b = σ a b := fun a b z1 z2 z3 z4 z5 => by
      rw [hs4, bq_up, if_neg z5, bq_up, if_neg z4, bq_up_o z3, y2 a z3, ro2 a b z1 z2]
    have e17 : s3 135 17 = σ 135 17 := by rw [y2 135 (by decide)]; exact ro2 135 17 (by omega) (by omega)
    have c4 : ∀ a b, 5 ≤ a → a ≤ 16 → s4 a b = s2 a b := fun a b z1 z2 => by rw [hs4, bq_up_o (by omega), bq_up_o (by omega), bq_up_o (by omega), y2 a (by omega)]
    have row : ∀ j k, j < 2 → k < 108 → s4 166 (108 * j + k) = if j = m then (if k < 107 then σ 144 k else σ 135 17) else σ 166 (108 * j + k) := fun j k hj hk => by
      rw [hs4, bq_up_o (by decide), bq_up_o (by decide), bq_up, y3]
      by_cases z : j = m
      · subst z
        rw [if_pos rfl]
        by_cases z2 : k < 107
        · rw [if_neg (by omega), if_pos (by omega), if_pos z2, show 0 + (108 * j + k - 108 * j) = k by omega]
          exact ro2 144 k (by omega) (by omega)
        · rw [if_pos (by omega), if_neg z2]
      · rw [if_neg z, if_neg (by omega), if_neg (by omega)]
        exact ro2 166 _ (by omega) (by omega)
    have r167 : ∀ j, j < 2 → s4 167 j = if j = m then 1 else σ 167 j := fun j hj => by
      rw [hs4, bq_up_o (by decide), bq_up]
      by_cases z : j = m
      · rw [if_pos ⟨rfl, z⟩, if_pos z]
      · rw [if_neg (fun y => z y.2), if_neg z, bq_up_o (by decide), y2 167 (by decide)]
        exact ro2 167 j (by omega) (by omega)
    refine ⟨1, s2, s4, ?_, ?_, D, G, S, X, g, hH.fr (fun a b z => ro a b (by omega) (by omega) (by omega) (by omega) (by omega)), hN.fr (fun a b z => ro a b (by omega) (by omega) (by omega) (by omega) (by omega)), r1.fr (fun a b z => ro a b (by omega) (by omega) (by omega) (by omega) (by omega)), r2.fr (fun a b z => ro a b (by omega) (by omega) (by omega) (by omega) (by omega)), r3.empty ?_ ?_ (fun b => ro 4 b (by omega) (by omega) (by omega) (by omega) (by omega)), fun j hj => ⟨?_, ?_, fun hk => ⟨?_, ?_, ?_⟩⟩, r5.fr (fun a b z => ro a b (by omega) (by omega) (by omega) (by omega) (by omega)), r6.fr (fun a b z => ro a b (by omega) (by omega) (by omega) (by omega) (by omega))⟩
    · show ((mX2_become σ ((bo_im (nI m)) + 1) 50).bind fun σ2 => (some (bo_up σ2 (bo_im (nI m)) 1 (σ2 0 11))).bind fun σ3 => (some (bo_up σ3 (bo_im (nI m)) 2 1)).bind fun σ4 => (some (bo_up σ4 3 1 0)).bind fun σ5 => some ((1 : Int32), σ5)) = _
      rw [bq_im (by omega), x1, Option.bind_some, Option.bind_some, Option.bind_some, Option.bind_some, x2 0 (by omega), ← hs2]
    · unfold mX11_keep
      rw [rf_in (b := 0) (c := 1) (by decide +kernel) (by decide +kernel), if_pos c, Option.bind_some, if_neg bq_10, y1, Option.bind_some, show (108 : Int32) = nI 108 from rfl, pk_mul, show (107 : Int32) = nI 107 from rfl, nI_add, bq_st (by omega) (by decide), Option.bind_some, bq_st (by omega) (by decide), Option.bind_some, Option.bind_some, e17, hs4]
      rfl
    · rw [hs4, bq_up_o (by decide), bq_up_o (by decide), bq_up_o (by decide), y2 3 (by decide), hs2, bq_up_s]
    · rw [hs4, bq_up_s]
    · rw [r167 j hj]
      by_cases z : j = m
      · rw [if_pos z]; exact ⟨1, rfl, by omega, by omega⟩
      · rw [if_neg z]; exact (r4 j hj).1
    · rw [r167 j hj, c4 _ 2 (by omega) (by omega)]
      by_cases z : j = m
      · subst z
        rw [if_pos rfl, hs2, bq_up_o (by omega), bq_up_s]
        rfl
      · rw [if_neg z, ro2 (5 + 6 * j) 2 (by omega) (by omega)]
        exact (r4 j hj).2.1
    · by_cases z : j = m
      · subst z
        have eU : ∀ k, k < 107 → s4 166 (108 * j + k) = σ 144 k := fun k hk => by rw [row j k hj (by omega), if_pos rfl, if_pos hk]
        rw [show 5 + 6 * j + 1 = 6 + 6 * j by omega] at x3
        refine ⟨g, hN.1.cong eU, (sp_rep.cong h7 x3 eU).to (fun a z1 z2 => funext fun b => ?_)⟩
        rw [c4 a b (by omega) (by omega), hs2, bq_up_o (by omega), bq_up_o (by omega), bq_up_o (by omega)]
      · rw [r167 j hj, if_neg z] at hk
        obtain ⟨g0, z1, z2⟩ := ((r4 j hj).2.2 hk).1
        have eU : ∀ k, k < 107 → s4 166 (108 * j + k) = σ 166 (108 * j + k) := fun k hk => by rw [row j k hj (by omega), if_neg z]
        refine ⟨g0, z1.cong eU, (sp_rep.cong h7 z2 eU).to (fun a z1 z2 => funext fun b => ?_)⟩
        rw [c4 a b (by omega) (by omega), ro2 a b (by omega) (by omega)]
    · rw [row j 107 hj (by omega), c4 _ 1 (by omega) (by omega)]
      by_cases z : j = m
      · subst z
        rw [if_pos rfl, if_neg (by omega), hs2, bq_up_o (by omega), bq_up, if_neg (by omega), bq_up_s]
        exact r2.1
      · rw [if_neg z, ro2 (5 + 6 * j) 1 (by omega) (by omega)]
        rw [r167 j hj, if_neg z] at hk
        exact ((r4 j hj).2.2 hk).2.1
    · rw [row j 107 hj (by omega)]
      by_cases z : j = m
      · subst z
        rw [if_pos rfl, if_neg (by omega), ← r2.1]
        exact r2.2
      · rw [if_neg z]
        rw [r167 j hj, if_neg z] at hk
        exact ((r4 j hj).2.2 hk).2.2
  · rw [if_neg c]
    refine ⟨_, σ, σ, rfl, ?_, h⟩
    unfold mX11_keep
    rw [rf_in (b := 0) (c := 1) (by decide +kernel) (by decide +kernel), if_neg c, Option.bind_some, if_pos bq_00]
theorem st_goBack (h : in_all σ) (p : Int32) : ∃ r σ1 σ2, mX10_goBack σ p = some (r, σ1) ∧ mX11_goBack σ1 p = some (r, σ2) ∧ in_all σ2 := by
  obtain ⟨D, G, S, X, g, hH, hN, r1, r2, r3, r4, r5, r6⟩ := id h
  have h7 := hH.1.nD.2
  unfold mX10_goBack
  rw [cl_image, Option.bind_some]
  by_cases c : 0 ≤ p ∧ p ≤ 1
  · rw [if_pos c]
    obtain ⟨m, rfl, -, hm⟩ := bq_rng (a := 0) (b := 1) c.1 c.2 (by decide) (by decide)
    obtain ⟨k1, k2, k3⟩ := r4 m (by omega)
    obtain ⟨v, hv, -, hv2⟩ := k1
    by_cases cv : v = 0
    · subst cv
      refine ⟨-1000000003, σ, σ, ?_, ?_, h⟩
      · show (if (σ (bo_im (nI m)) 2 &&& 1) = 0 then some ((-1000000003 : Int32), σ) else _) = _
        rw [bq_im (by omega), k2, hv, if_pos (show nI 0 = 0 from rfl)]
      · unfold mX11_goBack
        rw [rf_in (b := 0) (c := 1) (by decide +kernel) (by decide +kernel), if_pos c, Option.bind_some, if_neg bq_10, bq_ld (by omega) (by decide), Option.bind_some, hv, if_pos (show nI 0 = 0 from rfl)]
    · have e : v = 1 := by omega
      subst e
      obtain ⟨⟨g0, w1, w2⟩, w3, w4⟩ := k3 hv
      obtain ⟨s1, x1, x2, x3⟩ := cl_become (σ := σ) (e := 50) (r := 6 + 6 * m) w2 (by omega)
      obtain ⟨s2, hs2⟩ : ∃ s2, s2 = bo_up (bo_up s1 0 11 (σ (5 + 6 * m) 1)) 3 1 0 := ⟨_, rfl⟩
      have ro2 : ∀ a b, ¬ (50 ≤ a ∧ a ≤ 54) → ¬ (a = 0 ∧ b = 11) → ¬ (a = 3 ∧ b = 1) → s2 a b = σ a b := fun a b z1 z2 z3 => by
        rw [hs2, bq_up, if_neg z3, bq_up, if_neg z2, x2 a (by omega)]
      obtain ⟨s3, y1, y2, y3⟩ := rf_cp (s := s2) (L := mX11_goBack_L29 (nI m)) (a := 166) (o := 144) (n0 := 216) (n1 := 107) (f := 108 * m) (q := 0) (by decide) (by decide) (by
        intro n k t hk ht
        simp only [mX11_goBack_L29]
        rw [if_neg (show ¬ (107 : Int32) ≤ nI k from nI_ge (b := 107) hk (by decide)), show (108 : Int32) = nI 108 from rfl, pk_mul, nI_add, nI_1, Nat.zero_add]) (by
        intro n t
        simp only [mX11_goBack_L29]
        rw [if_pos (show (107 : Int32) ≤ nI 107 from Int32.le_refl _)]) (by omega) (by omega) (by decide) (by decide)
      obtain ⟨s4, hs4⟩ : ∃ s4, s4 = bo_up (bo_up s3 135 17 (σ 166 (108 * m + 107))) 135 38 0 := ⟨_, rfl⟩
      have ro : ∀ a b, ¬ (50 ≤ a ∧ a ≤ 54) → ¬ (a = 0 ∧ b = 11) → ¬ (a = 3 ∧ b = 1) → ¬ (a = 144) → ¬ (a = 135 ∧ b = 17) → ¬ (a = 135 ∧ b = 38) → s4 a b = σ a b := fun a b z1 z2 z3 z4 z5 z6 => by
        rw [hs4, bq_up, if_neg z6, bq_up, if_neg z5, y2 a z4, ro2 a b z1 z2 z3]
      have e144 : ∀ j, j < 107 → s4 144 j = σ 166 (108 * m + j) := fun j hj => by
        rw [hs4, bq_up_o (by decide), bq_up_o (by decide), y3 j, if_pos (by omega), Nat.sub_zero]
        exact ro2 166 _ (by omega) (by omega) (by omega)
      refine ⟨1, s2, s4, ?_, ?_, D, G, S, X, g0, hH.fr (fun a b z => ro a b (by omega) (by omega) (by omega) (by omega) (by omega) (by omega)), ⟨w1.cong e144, ?_⟩, r1.fr (fun a b z => ro a b (by omega) (by omega) (by omega) (by omega) (by omega) (by omega)), ⟨?_, ?_⟩, r3.empty ?_ ?_ (fun b => ro 4 b (by omega) (by omega) (by omega) (by omega) (by omega) (by omega)), r4.fr (fun a b z => ro a b (by omega) (by omega) (by omega) (by omega) (by omega) (by omega)), r5.fr (fun a b z => ro a b (by omega) (by omega) (by omega) (by omega) (by omega) (by omega)), r6.fr (fun a b z => ro a b (by omega) (by omega) (by omega) (by omega) (by omega) (by omega))⟩
      · show (if (σ (bo_im (nI m)) 2 &&& 1) = 0 then some ((-1000000003 : Int32), σ) else (mX2_become σ 50 ((bo_im (nI m)) + 1)).bind fun σ2 => (some (bo_up σ2 0 11 (σ2 (bo_im (nI m)) 1))).bind fun σ3 => (some (bo_up σ3 3 1 0)).bind fun σ4 => some ((1 : Int32), σ4)) = _
        rw [bq_im (by omega), k2, hv, if_neg (show ¬ nI 1 = 0 by decide), show 5 + 6 * m + 1 = 6 + 6 * m by omega, x1, Option.bind_some, Option.bind_some, Option.bind_some, x2 (5 + 6 * m) (by omega), ← hs2]
      · unfold mX11_goBack
        rw [rf_in (b := 0) (c := 1) (by decide +kernel) (by decide +kernel), if_pos c, Option.bind_some, if_neg bq_10, bq_ld (by omega) (by decide), Option.bind_some, ro2 167 m (by omega) (by omega) (by omega), hv, if_neg (show ¬ nI 1 = 0 by decide), y1, Option.bind_some, show (108 : Int32) = nI 108 from rfl, pk_mul, show (107 : Int32) = nI 107 from rfl, nI_add, bq_ld (by omega) (by decide), Option.bind_some, Option.bind_some, Option.bind_some, y2 166 (by decide), ro2 166 _ (by omega) (by omega) (by omega), hs4]
      · exact (sp_rep.cong h7 x3 e144).to (fun a z1 z2 => by rw [hs4, bq_up_o (by omega), bq_up_o (by omega), y2 a (by omega), hs2, bq_up_o (by omega), bq_up_o (by omega)])
      · rw [hs4, bq_up, if_neg (by decide), bq_up, if_neg (by decide), y2 0 (by decide), hs2, bq_up, if_neg (by decide), bq_up_s, bq_up, if_neg (by decide), bq_up_s]
        exact w3
      · rw [hs4, bq_up_o (by decide), bq_up_o (by decide), y2 0 (by decide), hs2, bq_up_o (by decide), bq_up_s, w3]
        exact w4
      · rw [hs4, bq_up_o (by decide), bq_up_o (by decide), y2 3 (by decide), hs2, bq_up_s]
      · rw [hs4, bq_up_s]
  · rw [if_neg c]
    refine ⟨_, σ, σ, rfl, ?_, h⟩
    unfold mX11_goBack
    rw [rf_in (b := 0) (c := 1) (by decide +kernel) (by decide +kernel), if_neg c, Option.bind_some, if_pos bq_00]
end UNDO
