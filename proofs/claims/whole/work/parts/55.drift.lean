/-! drift -/
section DRIFT
variable {σ s : bo_M} {D G S X g e B : Nat} {V U : Nat → Int32}
def sp_dr (x : Nat) : Nat := (x * 1103515245 + 12345) % 2147483648
theorem sp_dr_lt (x : Nat) : sp_dr x < 2 ^ 31 := Nat.mod_lt _ (by decide)
def sp_st (D : Nat) (y : sp_Y) : sp_Y :=
  if D = 0 then y
  else if sp_dr (sp_dr y.1) / 65536 % 6 = 0 then (sp_dr (sp_dr y.1), fun j => if j = sp_dr y.1 / 65536 % D then 1 else y.2 j)
  else if sp_dr (sp_dr y.1) / 65536 % 6 = 1 then (sp_dr (sp_dr y.1), fun j => if j = sp_dr y.1 / 65536 % D then 0 else y.2 j)
  else if sp_dr (sp_dr y.1) / 65536 % 6 = 2 then (sp_dr (sp_dr (sp_dr y.1)), fun j => if j = 25 then nI (sp_dr (sp_dr (sp_dr y.1)) / 65536 % 3) else y.2 j)
  else (sp_dr (sp_dr y.1), y.2)
theorem cl_draw {x q : Nat} (h : s 0 11 = nI x) (hq : 0 < q) (hq2 : q < 2 ^ 31) : mX10_draw s (nI q) = some (nI (sp_dr x / 65536 % q), bo_up s 0 11 (nI (sp_dr x))) := by
  have hd := sp_dr_lt x
  unfold mX10_draw
  rw [h, show (1103515245 : Int32) = nI 1103515245 from rfl, pk_mul, show (12345 : Int32) = nI 12345 from rfl, nI_add, show (2147483647 : Int32) = nI (2 ^ 31 - 1) from rfl, fa_mask, Option.bind_some, if_neg (nI_nle hq hq2), bq_up_s]
  show ((bo_iremo (nI (sp_dr x) / 65536) (nI q)).bind fun v2 => some (v2, bo_up s 0 11 (nI (sp_dr x)))) = _
  rw [show (65536 : Int32) = nI 65536 from rfl, pk_div hd (by decide) (by decide), bq_iremo hq hq2, Option.bind_some, bq_irm (by omega) hq hq2]
theorem rf_draw {x q : Nat} (h : s 135 17 = nI x) (hx : x < 2 ^ 31) (hq : 0 < q) (hq2 : q < 2 ^ 31) : mX11_draw s (nI q) = some (nI (sp_dr x / 65536 % q), bo_up s 135 17 (nI (sp_dr x))) := by
  have hd := sp_dr_lt x
  have e : Int64.toInt32 (bo_lrm ((Int32.toInt64 (nI x)) * 1103515245 + 12345) 2147483648) = nI (sp_dr x) := by
    rw [nI_l hx, show (1103515245 : Int64) = lN 1103515245 from rfl, lN_mul, show (12345 : Int64) = lN 12345 from rfl, lN_add, show (2147483648 : Int64) = lN 2147483648 from rfl]
    unfold bo_lrm
    rw [pk_lRem (by omega) (by decide) (by decide), lN_i]
    rfl
  unfold mX11_draw
  rw [h, e, Option.bind_some, bq_up_s, show (65536 : Int32) = nI 65536 from rfl, pk_div hd (by decide) (by decide), bq_iremo hq hq2, Option.bind_some, bq_irm (by omega) hq hq2]
theorem sp_wf_rain {t : Nat} (h : sp_wf D B V g) (ht : t ≤ 2) : sp_wf D B (fun i => if i = 25 then nI t else V i) g := by
  refine sp_wf_gen h (fun k hk => ⟨?_, ?_, ?_⟩) (fun k h1 h2 => ?_) (if_neg (by omega)) (if_neg (by omega)) ?_ ?_ ?_ (fun j hj => if_neg (by omega))
  · rw [if_neg (by omega)]; exact (h.dr k hk).1
  · rw [if_neg (by omega)]; exact (h.dr k hk).2.1
  · rw [if_neg (by omega)]; exact (h.dr k hk).2.2
  · rw [if_neg (by omega)]; exact h.no k h1 h2
  · rw [if_neg (by omega)]; exact h.bell
  · rw [if_neg (by omega)]; exact h.hung
  · rw [if_pos rfl]; exact ⟨t, rfl, by omega, ht⟩
theorem sp_rep_rain {t : Int32} (h7 : D ≤ 7) (hs : sp_rep s e D V g) : sp_rep (bo_up s e 9 t) e D (fun i => if i = 25 then t else V i) g := by
  refine sp_rep_gen hs (fun a ha => bq_up_o (by omega)) ?_ ?_ ?_ ?_ ?_ ?_ (fun k hk => ⟨?_, ?_⟩) (fun j hj => if_neg (by omega))
  · rw [bq_up, if_neg (by omega), if_neg (by omega)]; exact hs.gone
  · rw [bq_up, if_neg (by omega), hs.ins]
    congr 1
    exact sp_set_cong (fun k hk => by rw [if_neg (by omega)])
  · rw [bq_up, if_neg (by omega), if_neg (by omega)]; exact hs.bell
  · rw [bq_up, if_neg (by omega), if_neg (by omega)]; exact hs.hung
  · rw [bq_up, if_neg (by omega), if_neg (by omega)]; exact hs.paid
  · rw [bq_up_s, if_pos rfl]
  · rw [bq_up_o (by omega), if_neg (by omega)]; exact (hs.dr k hk).1
  · rw [bq_up_o (by omega), if_neg (by omega)]; exact (hs.dr k hk).2
theorem sp_st_wf (h7 : D ≤ 7) {y : sp_Y} (h1 : y.1 < 2 ^ 31) (h2 : sp_wf D B y.2 g) : (sp_st D y).1 < 2 ^ 31 ∧ sp_wf D B (sp_st D y).2 g := by
  unfold sp_st
  by_cases c0 : D = 0
  · rw [if_pos c0]; exact ⟨h1, h2⟩
  · have hd : sp_dr y.1 / 65536 % D < D := Nat.mod_lt _ (by omega)
    rw [if_neg c0]
    by_cases c1 : sp_dr (sp_dr y.1) / 65536 % 6 = 0
    · rw [if_pos c1]; exact ⟨sp_dr_lt _, sp_wf_in h2 (by omega) ⟨1, rfl, by omega, by omega⟩⟩
    · rw [if_neg c1]
      by_cases c2 : sp_dr (sp_dr y.1) / 65536 % 6 = 1
      · rw [if_pos c2]; exact ⟨sp_dr_lt _, sp_wf_in h2 (by omega) ⟨0, rfl, by omega, by omega⟩⟩
      · rw [if_neg c2]
        by_cases c3 : sp_dr (sp_dr y.1) / 65536 % 6 = 2
        · rw [if_pos c3]; exact ⟨sp_dr_lt _, sp_wf_rain h2 (by have := Nat.mod_lt (sp_dr (sp_dr (sp_dr y.1)) / 65536) (show 0 < 3 by decide); omega)⟩
        · rw [if_neg c3]; exact ⟨sp_dr_lt _, h2⟩
theorem cl_stir {y : sp_Y} (hD : s (bo_inn (s 0 9)) 11 = nI D) (h7 : D ≤ 7) (hR : sp_rep s 50 D y.2 g) (h11 : s 0 11 = nI y.1) :
    ∃ s', mX10_stir s = some s' ∧ (∀ a b, ¬ (50 ≤ a ∧ a ≤ 54) → ¬ (a = 0 ∧ b = 11) → s' a b = s a b) ∧ sp_rep s' 50 D (sp_st D y).2 g ∧ s' 0 11 = nI (sp_st D y).1 := by
  unfold mX10_stir sp_st
  rw [hD]
  by_cases c0 : D = 0
  · rw [if_pos c0, if_neg (by rw [c0]; exact fun z => nI_pos (n := 0) (by decide) (by revert z; decide))]
    exact ⟨s, rfl, fun _ _ _ _ => rfl, hR, h11⟩
  · have hd : sp_dr y.1 / 65536 % D < D := Nat.mod_lt _ (by omega)
    have h6 : sp_dr (sp_dr y.1) / 65536 % 6 < 6 := Nat.mod_lt _ (by omega)
    rw [if_neg c0, if_pos (show 0 < nI D from nI_lt (a := 0) (by omega) (by omega)), cl_draw h11 (by omega) (by omega), Option.bind_some, show (6 : Int32) = nI 6 from rfl, cl_draw (x := sp_dr y.1) bq_up_s (by decide) (by decide), Option.bind_some]
    obtain ⟨t, ht⟩ : ∃ t, t = bo_up (bo_up s 0 11 (nI (sp_dr y.1))) 0 11 (nI (sp_dr (sp_dr y.1))) := ⟨_, rfl⟩
    have tro : ∀ a b, ¬ (a = 0 ∧ b = 11) → t a b = s a b := fun a b z => by rw [ht, bq_up, if_neg z, bq_up, if_neg z]
    have t11 : t 0 11 = nI (sp_dr (sp_dr y.1)) := by rw [ht, bq_up_s]
    have tR : sp_rep t 50 D y.2 g := hR.to (fun a z1 z2 => funext fun b => tro a b (by omega))
    have t5 : t 50 5 = nI (sp_set (fun k => decide (y.2 k = 1)) D) := tR.ins
    dsimp only
    rw [← ht, bq_one_shl (by omega)]
    simp only [Option.bind_some]
    by_cases c1 : sp_dr (sp_dr y.1) / 65536 % 6 = 0
    · rw [if_pos c1, if_pos (by rw [c1]; rfl)]
      refine ⟨_, rfl, fun a b z1 z2 => by rw [bq_up_o (by omega), tro a b z2], ?_, by rw [bq_up_o (by decide)]; exact t11⟩
      refine sp_rep_in tR (fun a b z1 z2 z3 => by rw [bq_up, if_neg z3]) (by omega) ?_
      rw [bq_up_s, t5]
      exact sp_in_1 hd
    · rw [if_neg c1, if_neg (fun z => c1 ((bq_eq0 (by omega)).mp z))]
      by_cases c2 : sp_dr (sp_dr y.1) / 65536 % 6 = 1
      · rw [if_pos c2, if_pos (by rw [c2]; rfl)]
        refine ⟨_, rfl, fun a b z1 z2 => by rw [bq_up_o (by omega), tro a b z2], ?_, by rw [bq_up_o (by decide)]; exact t11⟩
        refine sp_rep_in tR (fun a b z1 z2 z3 => by rw [bq_up, if_neg z3]) (by omega) ?_
        rw [bq_up_s, t5]
        exact sp_in_0 h7 hd
      · rw [if_neg c2, if_neg (show ¬ nI (sp_dr (sp_dr y.1) / 65536 % 6) = 1 from fun z => c2 ((nI_eq (b := 1) (by omega) (by decide)).mp z))]
        by_cases c3 : sp_dr (sp_dr y.1) / 65536 % 6 = 2
        · rw [if_pos c3, if_pos (by rw [c3]; rfl), show (3 : Int32) = nI 3 from rfl, cl_draw t11 (by decide) (by decide), Option.bind_some]
          dsimp only
          refine ⟨_, rfl, fun a b z1 z2 => by rw [bq_up_o (by omega), bq_up, if_neg z2, tro a b z2], ?_, by rw [bq_up_o (by decide), bq_up_s]⟩
          exact sp_rep_rain h7 (tR.to (fun a z1 z2 => bq_up_o (by omega)))
        · rw [if_neg c3, if_neg (show ¬ nI (sp_dr (sp_dr y.1) / 65536 % 6) = 2 from fun z => c3 ((nI_eq (b := 2) (by omega) (by decide)).mp z))]
          exact ⟨t, rfl, fun a b z1 z2 => tro a b z2, tR, t11⟩
theorem rf_stir {y : sp_Y} (hD : s 135 4 = nI D) (h7 : D ≤ 7) (hV : s 144 = y.2) (h17 : s 135 17 = nI y.1) (h31 : y.1 < 2 ^ 31) :
    ∃ s', (if (s 135 4) ≤ 0 then some s else (mX11_happen s).bind fun σ4 => some σ4) = some s' ∧ (∀ a b, ¬ (a = 144) → ¬ (a = 135 ∧ b = 17) → s' a b = s a b) ∧ s' 144 = (sp_st D y).2 ∧ s' 135 17 = nI (sp_st D y).1 := by
  unfold sp_st
  rw [hD]
  by_cases c0 : D = 0
  · rw [if_pos c0, if_pos (by rw [c0]; exact Int32.le_refl _)]
    exact ⟨s, rfl, fun _ _ _ _ => rfl, hV, h17⟩
  · have hd : sp_dr y.1 / 65536 % D < D := Nat.mod_lt _ (by omega)
    have h6 : sp_dr (sp_dr y.1) / 65536 % 6 < 6 := Nat.mod_lt _ (by omega)
    unfold mX11_happen
    rw [if_neg c0, if_neg (nI_nle (by omega) (by omega)), hD, rf_draw h17 h31 (by omega) (by omega), Option.bind_some, show (6 : Int32) = nI 6 from rfl, rf_draw (x := sp_dr y.1) bq_up_s (sp_dr_lt _) (by decide) (by decide), Option.bind_some]
    obtain ⟨t, ht⟩ : ∃ t, t = bo_up (bo_up s 135 17 (nI (sp_dr y.1))) 135 17 (nI (sp_dr (sp_dr y.1))) := ⟨_, rfl⟩
    have tro : ∀ a b, ¬ (a = 135 ∧ b = 17) → t a b = s a b := fun a b z => by rw [ht, bq_up, if_neg z, bq_up, if_neg z]
    have t17 : t 135 17 = nI (sp_dr (sp_dr y.1)) := by rw [ht, bq_up_s]
    have tV : t 144 = y.2 := by rw [← hV]; exact funext fun b => tro 144 b (by omega)
    dsimp only
    rw [← ht, show (0 : Int32) + nI (sp_dr y.1 / 65536 % D) = nI (sp_dr y.1 / 65536 % D) from Int32.zero_add _, rf_stk (by omega), rf_stk (by omega)]
    simp only [Option.bind_some]
    by_cases c1 : sp_dr (sp_dr y.1) / 65536 % 6 = 0
    · rw [if_pos c1, if_pos (by rw [c1]; rfl), Option.bind_some]
      exact ⟨_, rfl, fun a b z1 z2 => by rw [bq_up_o z1, tro a b z2], by rw [bq_row144, tV], by rw [bq_up_o (by decide)]; exact t17⟩
    · rw [if_neg c1, if_neg (fun z => c1 ((bq_eq0 (by omega)).mp z))]
      by_cases c2 : sp_dr (sp_dr y.1) / 65536 % 6 = 1
      · rw [if_pos c2, if_pos (by rw [c2]; rfl), Option.bind_some]
        exact ⟨_, rfl, fun a b z1 z2 => by rw [bq_up_o z1, tro a b z2], by rw [bq_row144, tV], by rw [bq_up_o (by decide)]; exact t17⟩
      · rw [if_neg c2, if_neg (show ¬ nI (sp_dr (sp_dr y.1) / 65536 % 6) = 1 from fun z => c2 ((nI_eq (b := 1) (by omega) (by decide)).mp z))]
        by_cases c3 : sp_dr (sp_dr y.1) / 65536 % 6 = 2
        · rw [if_pos c3, if_pos (by rw [c3]; rfl), show (3 : Int32) = nI 3 from rfl, rf_draw t17 (sp_dr_lt _) (by decide) (by decide), Option.bind_some, show (25 : Int32) = nI 25 from rfl, rf_stk (by decide), Option.bind_some, Option.bind_some]
          dsimp only
          refine ⟨_, rfl, fun a b z1 z2 => by rw [bq_up_o z1, bq_up, if_neg z2, tro a b z2], ?_, by rw [bq_up_o (by decide), bq_up_s]⟩
          rw [bq_row144, bq_up_o (by decide), tV]
        · rw [if_neg c3, if_neg (show ¬ nI (sp_dr (sp_dr y.1) / 65536 % 6) = 2 from fun z => c3 ((nI_eq (b := 2) (by omega) (by decide)).mp z)), Option.bind_some]
          exact ⟨t, rfl, fun a b z1 z2 => tro a b z2, tV, t17⟩
theorem st_drift (h : in_all σ) (p : Int32) : ∃ r σ1 σ2, mX10_drift σ p = some (r, σ1) ∧ mX11_drift σ1 p = some (r, σ2) ∧ in_all σ2 := by
  obtain ⟨D, G, S, X, g, hH, hN, hR⟩ := id h
  have h7 := hH.1.nD.2
  refine wr_refq (fx := mX10_drift) (gm := mX11_drift) h hH hN p rfl (fun s => rfl) (fun c ho hg => ?_)
  obtain ⟨m, rfl, -, hm⟩ := bq_rng (a := 1) (b := 96) c.1 c.2 (by decide) (by decide)
  have hi : bo_inn (σ 0 9) = 34 ∨ bo_inn (σ 0 9) = 42 := bo_inn_ok (σ 0 9)
  exact wr_walk (st := sp_st D) (stc := mX10_stir) (str := fun s => if (s 135 4) ≤ 0 then some s else (mX11_happen s).bind fun σ4 => some σ4) (m := m) (L := mX10_drift_L28 (nI m)) (Lr := mX11_drift_L21 (nI m)) hm (fun _ _ _ _ => rfl) (fun _ _ _ _ => rfl) hH hN hR hg (fun y g h1 h2 => sp_st_wf h7 h1 h2)
    (fun s y g h1 h2 h3 _ _ => cl_stir (by rw [h1 0 9 (by omega) (by omega) (by omega) (by omega) (by omega), h1 _ 11 (by omega) (by omega) (by omega) (by omega) (by omega)]; exact hH.2.1.nD) h7 h2 h3) (fun s y g h1 h2 h3 h4 _ => rf_stir (by rw [h1.1 4 (by decide)]; exact hH.1.nD.1) h7 h2 h3 h4)
end DRIFT
