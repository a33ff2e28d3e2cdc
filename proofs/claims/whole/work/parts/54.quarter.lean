/-! quarter, drift -/
section QUARTER
variable {σ σ' : bo_M} {D G S X g e B : Nat} {V U : Nat → Int32}
abbrev sp_Y : Type := Nat × (Nat → Int32)
def sp_dw (st : sp_Y → sp_Y) (N : bo_M) (D X g : Nat) (y : sp_Y) : Nat → sp_Y
  | 0 => y
  | k + 1 => ((st (sp_dw st N D X g y k)).1, sp_pass N D X (g + k) (st (sp_dw st N D X g y k)).2)
def sp_dv (st : sp_Y → sp_Y) (N : bo_M) (D X g : Nat) (y : sp_Y) : Nat → Int32
  | 0 => 0
  | k + 1 => nI (sp_heard N X (st (sp_dw st N D X g y k)).2 (g + k) (sp_cnt (sp_ring N (st (sp_dw st N D X g y k)).2) D))
theorem sp_wf.le' (h : sp_wf D B V g) {B' : Nat} (hg : g ≤ B') : sp_wf D B' V g := ⟨h.1, h.no, ⟨h.ng.1, hg⟩, h.2.2.2⟩
theorem bq_pos31 {v : Int32} (h : 0 ≤ v) : ∃ x, v = nI x ∧ x < 2 ^ 31 := by
  obtain ⟨x, hx, -, h2⟩ := bq_rng (p := v) (a := 0) (b := 2147483647) h (by
    rw [fa_le, nI_toInt (by decide)]
    have := fb_rng v
    omega) (by decide) (by decide)
  exact ⟨x, hx, by omega⟩
theorem wr_walk {st : sp_Y → sp_Y} {stc str : bo_M → Option bo_M} {m : Nat} {L Lr : Nat → Int32 → Int32 → bo_M → Option (Int32 × bo_M)} (hm : m ≤ 96)
    (hL : ∀ n w3 w4 s, L (n + 1) w3 w4 s = if nI m ≤ w4 then some (w3, s) else (stc s).bind fun s' => (mX2_pass s' 50 (bo_inn (s' 0 9))).bind fun a => L n a.1 (w4 + 1) a.2)
    (hLr : ∀ n w3 w4 s, Lr (n + 1) w3 w4 s = if nI m ≤ w4 then some (w3, s) else (str s).bind fun s' => (mX11_pass s').bind fun a => Lr n a.1 (w4 + 1) a.2)
    (hH : in_house σ D G S X) (hN : in_now σ D g) (hR : in_rest σ D) (hg9 : g ≤ 90000)
    (hst : ∀ y g, y.1 < 2 ^ 31 → sp_wf D 90096 y.2 g → (st y).1 < 2 ^ 31 ∧ sp_wf D 90096 (st y).2 g)
    (hc : ∀ s y g, (∀ a b, ¬ (50 ≤ a ∧ a ≤ 54) → ¬ (a = 0 ∧ b = 11) → ¬ (a = 4) → ¬ (a = 3 ∧ b = 1) → ¬ (55 ≤ a ∧ a ≤ 134) → s a b = σ a b) → sp_rep s 50 D y.2 g → s 0 11 = nI y.1 → y.1 < 2 ^ 31 → sp_wf D 90096 y.2 g →
      ∃ s', stc s = some s' ∧ (∀ a b, ¬ (50 ≤ a ∧ a ≤ 54) → ¬ (a = 0 ∧ b = 11) → s' a b = s a b) ∧ sp_rep s' 50 D (st y).2 g ∧ s' 0 11 = nI (st y).1)
    (hr : ∀ s y g, sp_ag s σ → s 144 = y.2 → s 135 17 = nI y.1 → y.1 < 2 ^ 31 → sp_wf D 90096 y.2 g →
      ∃ s', str s = some s' ∧ (∀ a b, ¬ (a = 144) → ¬ (a = 135 ∧ b = 17) → s' a b = s a b) ∧ s' 144 = (st y).2 ∧ s' 135 17 = nI (st y).1) :
    ∃ r σ1 σ2, ((mX6_note σ 50).bind fun σ2 => (L bo_fuel 0 0 σ2).bind fun a4 => some (a4.1, a4.2)) = some (r, σ1) ∧ sp_ag σ1 σ ∧ (∀ b, σ1 144 b = σ 144 b) ∧ ((mX11_remember σ1).bind fun σ2 => (Lr bo_fuel 0 0 σ2).bind fun a4 => some (a4.1, a4.2)) = some (r, σ2) ∧ in_all σ2 := by
  obtain ⟨x0, hx0, hx31⟩ := bq_pos31 hR.2.1.2
  have hx0' : σ 135 17 = nI x0 := by rw [← hR.2.1.1]; exact hx0
  obtain ⟨σ1, w1, w2, w3⟩ := wr_frame hH hN hR
  have hy : ∀ k, k ≤ m → (sp_dw st σ D X g (x0, σ 144) k).1 < 2 ^ 31 ∧ sp_wf D 90096 (sp_dw st σ D X g (x0, σ 144) k).2 (g + k) := by
    intro k
    induction k with
    | zero => intro _; exact ⟨hx31, hN.1⟩
    | succ k ih =>
      intro hk
      obtain ⟨i1, i2⟩ := ih (by omega)
      obtain ⟨j1, j2⟩ := hst _ _ i1 i2
      exact ⟨j1, (sp_pass_wf hH.1 j2 (by decide)).le' (by omega)⟩
  obtain ⟨b, b1, b2, b3, b4, b5⟩ := bq_inv (fun n (a : Int32 × bo_M) k => L n a.1 (nI k) a.2) m
    (fun k a => a.1 = sp_dv st σ D X g (x0, σ 144) k ∧ (∀ a' b, ¬ (50 ≤ a' ∧ a' ≤ 54) → ¬ (a' = 0 ∧ b = 11) → a.2 a' b = σ1 a' b) ∧ sp_rep a.2 50 D (sp_dw st σ D X g (x0, σ 144) k).2 (g + k) ∧ a.2 0 11 = nI (sp_dw st σ D X g (x0, σ 144) k).1)
    (fun a => a.1 = sp_dv st σ D X g (x0, σ 144) m ∧ (∀ a' b, ¬ (50 ≤ a' ∧ a' ≤ 54) → ¬ (a' = 0 ∧ b = 11) → a.2 a' b = σ1 a' b) ∧ sp_rep a.2 50 D (sp_dw st σ D X g (x0, σ 144) m).2 (g + m) ∧ a.2 0 11 = nI (sp_dw st σ D X g (x0, σ 144) m).1) (by
    intro n k ⟨v, s⟩ hk ⟨a1, a2, a3, a4⟩
    dsimp only at a1 a2 a3 a4 ⊢
    rw [hL]
    by_cases z : k = m
    · subst z
      exact Or.inl ⟨_, if_pos (Int32.le_refl _), a1, a2, a3, a4⟩
    · have hlt : k < m := by omega
      obtain ⟨i1, i2⟩ := hy k (by omega)
      obtain ⟨j1, j2⟩ := hst _ _ i1 i2
      obtain ⟨s', s1, s2, s3, s4⟩ := hc s _ (g + k) (fun a b z1 z2 z3 z4 z5 => by rw [a2 a b z1 z2, w2 a b z3 z4 z5]) a3 a4 i1 i2
      have ro : ∀ a b, ¬ (50 ≤ a ∧ a ≤ 54) → ¬ (a = 0 ∧ b = 11) → ¬ (a = 4) → ¬ (a = 3 ∧ b = 1) → ¬ (55 ≤ a ∧ a ≤ 134) → s' a b = σ a b := fun a b z1 z2 z3 z4 z5 => by rw [s2 a b z1 z2, a2 a b z1 z2, w2 a b z3 z4 z5]
      have hi : bo_inn (σ 0 9) = 34 ∨ bo_inn (σ 0 9) = 42 := bo_inn_ok (σ 0 9)
      have e9 : s' 0 9 = σ 0 9 := ro 0 9 (by omega) (by omega) (by omega) (by omega) (by omega)
      obtain ⟨t, t1, t2, t3⟩ := cl_pass (σ := s') (e := 50) (hH.2.1.to (fun a z1 z2 => funext fun b => ro a b (by omega) (by omega) (by omega) (by omega) (by omega))) hH.1 s3 j2 (by decide) (by omega)
      refine Or.inr ⟨hlt, (_, t), ⟨rfl, fun a' b z1 z2 => ?_, t3, ?_⟩, ?_⟩
      · show t a' b = _
        rw [t2 a' (by omega), s2 a' b z1 z2, a2 a' b z1 z2]
      · show t 0 11 = _
        rw [t2 0 (by omega), s4]
        rfl
      · rw [if_neg (nI_ge hlt (by omega)), s1, Option.bind_some, e9, t1, Option.bind_some, nI_1]
        rfl) bo_fuel 0 (0, σ1) (Nat.zero_le _) (bq_fuel (by omega)) ⟨rfl, fun _ _ _ _ => rfl, hN.2.to (fun a z1 z2 => funext fun b => w2 a b (by omega) (by omega) (by omega)), (w2 0 11 (by omega) (by omega) (by omega)).trans hx0⟩
  obtain ⟨σ3, w4, w5, w6⟩ := w3 b.2 b3
  have ro3 : ∀ a b', a = 144 ∨ 135 ≤ a ∧ a ≤ 143 → ¬ (a = 135 ∧ b' = 38) → σ3 a b' = σ a b' := fun a b' z1 z2 => by
    rw [w5 a b' (by omega) z2, b3 a b' (by omega) (by omega), w2 a b' (by omega) (by omega) (by omega)]
  obtain ⟨d, d1, d2, d3, d4, d5⟩ := bq_inv (fun n (a : Int32 × bo_M) k => Lr n a.1 (nI k) a.2) m
    (fun k a => a.1 = sp_dv st σ D X g (x0, σ 144) k ∧ (∀ a' b, ¬ (a' = 144) → ¬ (a' = 135 ∧ b = 17) → a.2 a' b = σ3 a' b) ∧ a.2 144 = (sp_dw st σ D X g (x0, σ 144) k).2 ∧ a.2 135 17 = nI (sp_dw st σ D X g (x0, σ 144) k).1)
    (fun a => a.1 = sp_dv st σ D X g (x0, σ 144) m ∧ (∀ a' b, ¬ (a' = 144) → ¬ (a' = 135 ∧ b = 17) → a.2 a' b = σ3 a' b) ∧ a.2 144 = (sp_dw st σ D X g (x0, σ 144) m).2 ∧ a.2 135 17 = nI (sp_dw st σ D X g (x0, σ 144) m).1) (by
    intro n k ⟨v, s⟩ hk ⟨a1, a2, a3, a4⟩
    dsimp only at a1 a2 a3 a4 ⊢
    rw [hLr]
    by_cases z : k = m
    · subst z
      exact Or.inl ⟨_, if_pos (Int32.le_refl _), a1, a2, a3, a4⟩
    · have hlt : k < m := by omega
      obtain ⟨i1, i2⟩ := hy k (by omega)
      obtain ⟨j1, j2⟩ := hst _ _ i1 i2
      have ags : sp_ag s σ := sp_ag.fr (fun a b z => by rw [a2 a b (by omega) (by omega), ro3 a b (by omega) (by omega)])
      obtain ⟨s', s1, s2, s3, s4⟩ := hr s _ (g + k) ags a3 a4 i1 i2
      have ags' : sp_ag s' σ := sp_ag.fr (fun a b z => by rw [s2 a b (by omega) (by omega), a2 a b (by omega) (by omega), ro3 a b (by omega) (by omega)])
      obtain ⟨t, t1, t2, t3⟩ := rf_pass (σ := s') ags' hH.1 (by rw [s3]; exact j2) (by decide)
      rw [s3] at t1 t3
      refine Or.inr ⟨hlt, (_, t), ⟨rfl, fun a' b z1 z2 => ?_, t3, ?_⟩, ?_⟩
      · show t a' b = _
        rw [t2 a' z1, s2 a' b z1 z2, a2 a' b z1 z2]
      · show t 135 17 = _
        rw [t2 135 (by decide), s4]
        rfl
      · rw [if_neg (nI_ge hlt (by omega)), s1, Option.bind_some, t1, Option.bind_some, nI_1]
        rfl) bo_fuel 0 (0, σ3) (Nat.zero_le _) (bq_fuel (by omega)) ⟨rfl, fun _ _ _ _ => rfl, funext fun b' => ro3 144 b' (by omega) (by omega), (ro3 135 17 (by omega) (by omega)).trans hx0'⟩
  refine ⟨sp_dv st σ D X g (x0, σ 144) m, b.2, d.2, ?_, ?_, ?_, ?_, ?_⟩
  · rw [w1, Option.bind_some, show L bo_fuel 0 0 σ1 = some b from b1, Option.bind_some, b2]
  · exact sp_ag.fr (fun a b' z => by rw [b3 a b' (by omega) (by omega), w2 a b' (by omega) (by omega) (by omega)])
  · exact fun b' => by rw [b3 144 b' (by omega) (by omega), w2 144 b' (by omega) (by omega) (by omega)]
  · rw [w4, Option.bind_some, show Lr bo_fuel 0 0 σ3 = some d from d1, Option.bind_some, d2]
  · refine w6 d.2 (g + m) d3 ⟨?_, ?_⟩ ⟨?_, ?_⟩
    · rw [d4]; exact (hy m (Nat.le_refl _)).2
    · rw [d4]
      exact b4.to (fun a z1 z2 => funext fun b' => by rw [d3 a b' (by omega) (by omega), w5 a b' (by omega) (by omega)])
    · rw [d5, d3 0 11 (by omega) (by omega), w5 0 11 (by omega) (by omega), b5]
    · rw [d3 0 11 (by omega) (by omega), w5 0 11 (by omega) (by omega), b5, ← nI_0]
      exact nI_le (Nat.zero_le _) (hy m (Nat.le_refl _)).1
theorem cl_refq (hH : in_house σ D G S X) (hN : in_now σ D g) (p : Int32) : mX10_refusedQuarters σ p = some (if 1 ≤ p ∧ p ≤ 96 then (if sp_open σ then (if g ≤ 90000 then 0 else -1000000004) else -1000000003) else -1000000002) := by
  unfold mX10_refusedQuarters
  rw [cl_rng, Option.bind_some, cl_refused hH, Option.bind_some]
  by_cases c : 1 ≤ p ∧ p ≤ 96
  · rw [if_pos c, if_pos c]
    cases sp_open σ
    · rw [if_neg (by decide)]; rfl
    · rw [if_pos (by decide), hN.2.gone, hN.1.ng.1]
      have := hN.1.ng.2
      by_cases z : g ≤ 90000
      · rw [if_pos (show nI g ≤ 90000 from nI_le (b := 90000) z (by decide)), if_pos z]; rfl
      · rw [if_neg (show ¬ nI g ≤ 90000 from nI_ge (a := 90000) (by omega) (by omega)), if_neg z]; rfl
  · rw [if_neg c, if_neg c, if_neg (show ¬ (-1000000002 : Int32) = 0 by decide)]
theorem rf_refq {s : bo_M} (hH : in_house σ D G S X) (hN : in_now σ D g) (hA : sp_ag s σ) (h144 : ∀ b, s 144 b = σ 144 b) (p : Int32) : mX11_quartersRefused s p = some (if 1 ≤ p ∧ p ≤ 96 then (if sp_open σ then (if g ≤ 90000 then 0 else -1000000004) else -1000000003) else -1000000002) := by
  unfold mX11_quartersRefused
  rw [rf_in (b := 1) (c := 96) (by decide +kernel) (by decide +kernel), Option.bind_some]
  by_cases c : 1 ≤ p ∧ p ≤ 96
  · rw [if_pos c, if_pos c, if_neg bq_10, hA.1 0 (by decide)]
    cases ho : sp_open σ with
    | false => rw [if_pos (sp_open_f ho)]; rfl
    | true =>
      rw [if_neg (sp_open_t ho), show (21 : Int32) = nI 21 from rfl, rf_ldk 21 (by decide), Option.bind_some, h144 21, hN.1.ng.1]
      have := hN.1.ng.2
      by_cases z : g ≤ 90000
      · rw [if_pos (show nI g ≤ 90000 from nI_le (b := 90000) z (by decide)), if_pos z]; rfl
      · rw [if_neg (show ¬ nI g ≤ 90000 from nI_ge (a := 90000) (by omega) (by omega)), if_neg z]; rfl
  · rw [if_neg c, if_neg c, if_pos bq_00]
theorem wr_refq {fx : bo_M → Int32 → Option (Int32 × bo_M)} {gm : bo_M → Int32 → Option (Int32 × bo_M)} {A : Option (Int32 × bo_M)} {B : bo_M → Option (Int32 × bo_M)} (h : in_all σ) (hH : in_house σ D G S X) (hN : in_now σ D g) (p : Int32)
    (hf : fx σ p = (mX10_refusedQuarters σ p).bind fun v1 => if v1 = 0 then A else some (v1, σ)) (hg : ∀ s, gm s p = (mX11_quartersRefused s p).bind fun v1 => if v1 = 0 then B s else some (v1, s))
    (main : (1 ≤ p ∧ p ≤ 96) → sp_open σ = true → g ≤ 90000 → ∃ r σ1 σ2, A = some (r, σ1) ∧ sp_ag σ1 σ ∧ (∀ b, σ1 144 b = σ 144 b) ∧ B σ1 = some (r, σ2) ∧ in_all σ2) :
    ∃ r σ1 σ2, fx σ p = some (r, σ1) ∧ gm σ1 p = some (r, σ2) ∧ in_all σ2 := by
  rw [hf, cl_refq hH hN p, Option.bind_some]
  by_cases c : (1 ≤ p ∧ p ≤ 96) ∧ sp_open σ = true ∧ g ≤ 90000
  · obtain ⟨c1, c2, c3⟩ := c
    obtain ⟨r, σ1, σ2, a1, a2, a3, a4, a5⟩ := main c1 c2 c3
    refine ⟨r, σ1, σ2, ?_, ?_, a5⟩
    · rw [if_pos c1, if_pos c2, if_pos c3, if_pos bq_00, a1]
    · rw [hg, rf_refq hH hN a2 a3 p, Option.bind_some, if_pos c1, if_pos c2, if_pos c3, if_pos bq_00, a4]
  · have hne : ¬ (if 1 ≤ p ∧ p ≤ 96 then (if sp_open σ then (if g ≤ 90000 then (0 : Int32) else -1000000004) else -1000000003) else -1000000002) = 0 := by
      by_cases c1 : 1 ≤ p ∧ p ≤ 96
      · rw [if_pos c1]
        by_cases c2 : sp_open σ = true
        · rw [if_pos c2, if_neg (fun z => c ⟨c1, c2, z⟩)]; decide
        · rw [if_neg c2]; decide
      · rw [if_neg c1]; decide
    rw [if_neg hne]
    exact ⟨_, σ, σ, rfl, by rw [hg, rf_refq hH hN sp_ag.rf (fun _ => rfl) p, Option.bind_some, if_neg hne], h⟩
theorem st_quarter (h : in_all σ) (p : Int32) : ∃ r σ1 σ2, mX10_quarter σ p = some (r, σ1) ∧ mX11_quarter σ1 p = some (r, σ2) ∧ in_all σ2 := by
  obtain ⟨D, G, S, X, g, hH, hN, hR⟩ := id h
  refine wr_refq (fx := mX10_quarter) (gm := mX11_quarter) h hH hN p rfl (fun s => rfl) (fun c ho hg => ?_)
  obtain ⟨m, rfl, -, hm⟩ := bq_rng (a := 1) (b := 96) c.1 c.2 (by decide) (by decide)
  exact wr_walk (st := id) (stc := some) (str := some) (m := m) (L := mX10_quarter_L28 (nI m)) (Lr := mX11_quarter_L21 (nI m)) hm (fun _ _ _ _ => rfl) (fun _ _ _ _ => rfl) hH hN hR hg (fun y g h1 h2 => ⟨h1, h2⟩)
    (fun s y g _ h2 h3 _ _ => ⟨s, rfl, fun _ _ _ _ => rfl, h2, h3⟩) (fun s y g _ h2 h3 _ _ => ⟨s, rfl, fun _ _ _ _ => rfl, h2, h3⟩)
end QUARTER
