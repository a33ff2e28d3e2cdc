/-! listen -/
section LISTEN
variable {σ s N : bo_M} {i D G S X g W C : Nat} {V : Nat → Int32} {A H : Nat → Nat} {F : Nat → Bool} {E : Nat → Nat}
def sp_gop (hv : Nat → Nat) (st : Int32 × (Nat → Int32)) (w : Nat) : Int32 × (Nat → Int32) :=
  (if st.1 < st.2 (hv w) + 1 then st.2 (hv w) + 1 else st.1, fun j => if j = hv w then st.2 (hv w) + 1 else st.2 j)
def sp_gr (F : Nat → Bool) (hv : Nat → Nat) (M : Nat) : Int32 × (Nat → Int32) := sp_fo (fun a w => if F w then sp_gop hv a w else a) (0, fun _ => 0) M
theorem cl_great (hi : i = 34 ∨ i = 42) (hK : kn_c s i N D G S X V W A H) (hE : sp_env N D G S X) {t q : Nat} (ht : N 135 2 = nI t) (ht9 : t ≤ 9) (hq : q ≤ 95)
    (hC : C = sp_cnt F (2 ^ D)) (h5 : s 24 5 = nI C) (hL : sp_lists F E (2 ^ D)) (h27 : ∀ j, j < C → s 27 j = nI (E j)) :
    ∃ r, mX5_greatestAlike s i 50 (nI q) = some ((sp_gr F (fun w => sp_hb N X D V w q t) (2 ^ D)).1, r) ∧ ∀ a, a ≠ 28 → r a = s a := by
  have h7 := hE.nD.2
  have hpow : 2 ^ D ≤ 128 := Nat.pow_le_pow_right (n := 2) (by decide) h7
  have hC128 : C ≤ 128 := by rw [hC]; exact Nat.le_trans (sp_cnt_le _ _) hpow
  unfold mX5_greatestAlike
  rw [cl_due hK.1 hE hK.2.1, Option.bind_some, bq_zero (by omega), Option.bind_some]
  obtain ⟨hv, hhv⟩ : ∃ hv : Nat → Nat, hv = fun w => sp_hb N X D V w q t := ⟨_, rfl⟩
  rw [← hhv]
  have hv8 : ∀ w, hv w ≤ 8 := fun w => by rw [hhv]; exact sp_hb_le hE
  obtain ⟨b, y1, y2, y3⟩ := bq_inv (fun n (a : Int32 × bo_M) k => mX5_greatestAlike_L21 i (nI q) (nI (sp_set (sp_turn N V (nI q)) D)) n a.1 (nI k) a.2) C
    (fun k a => a.1 = (sp_fo (fun a j => sp_gop hv a (E j)) (0, fun _ => 0) k).1 ∧ (∀ j, j < 17 → a.2 28 j = (sp_fo (fun a j => sp_gop hv a (E j)) (0, fun _ => 0) k).2 j) ∧ ∀ a', a' ≠ 28 → a.2 a' = s a')
    (fun a => a.1 = (sp_fo (fun a j => sp_gop hv a (E j)) (0, fun _ => 0) C).1 ∧ ∀ a', a' ≠ 28 → a.2 a' = s a') (by
    intro n k ⟨m, r⟩ hk ⟨a1, a2, a3⟩
    dsimp only at a1 a2 a3
    have hKr : kn_c r i N D G S X V W A H := hK.to hi (fun a z1 z2 z3 => a3 a z3) (by rw [a3 24 (by decide)])
    by_cases e : k = C
    · subst e
      exact Or.inl ⟨_, by simp only [mX5_greatestAlike_L21]; rw [a3 24 (by decide), h5, if_pos (Int32.le_refl _)], a1, a3⟩
    · have hlt : k < C := by omega
      have e27 : r 27 k = nI (E k) := by rw [a3 27 (by decide)]; exact h27 k hlt
      have hEk := hL.2 k (by omega)
      have hh := hv8 (E k)
      have hb := cl_hb hKr.1 hE (V := V) hEk hq ht9
      rw [show sp_hb N X D V (E k) q t = hv (E k) by rw [hhv]] at hb
      refine Or.inr ⟨hlt, ((if m < r 28 (hv (E k)) + 1 then r 28 (hv (E k)) + 1 else m), bo_up r 28 (hv (E k)) (r 28 (hv (E k)) + 1)), ⟨?_, ?_, ?_⟩, ?_⟩
      rotate_left 3
      · simp only [mX5_greatestAlike_L21]
        rw [a3 24 (by decide), h5, if_neg (nI_ge hlt (by omega)), bq_at (by omega) (by decide), Option.bind_some, e27, hKr.1.takes, ht, hb, Option.bind_some, bq_at (by omega) (by decide), Option.bind_some, bq_put (by omega) (by decide), Option.bind_some, nI_1]
      · rw [a1, a2 (hv (E k)) (by omega)]
        rfl
      · intro j hj
        dsimp only
        rw [bq_up, a2 (hv (E k)) (by omega), a2 j hj]
        show _ = if j = hv (E k) then _ else _
        by_cases z : j = hv (E k)
        · rw [if_pos ⟨rfl, z⟩, if_pos z]
        · rw [if_neg (fun y => z y.2), if_neg z]
      · intro a' ha
        dsimp only
        rw [bq_up_o ha]; exact a3 a' ha) bo_fuel 0 (0, fun a b => if a = 28 ∧ b < 17 then 0 else s a b) (Nat.zero_le _) (bq_fuel (by omega)) ⟨rfl, fun j hj => if_pos ⟨rfl, hj⟩, fun a ha => funext fun b => if_neg (fun z => ha z.1)⟩
  refine ⟨b.2, ?_, y3⟩
  rw [show mX5_greatestAlike_L21 i (nI q) (nI (sp_set (sp_turn N V (nI q)) D)) bo_fuel 0 0 (fun a b => if a = 28 ∧ b < 17 then 0 else s a b) = some b from y1, Option.bind_some, y2, hC, sp_fo_cnt hL.1]
  rfl
theorem rf_great (hK : kn_r s N V W A H) (hE : sp_env N D G S X) {t q : Nat} (ht : N 135 2 = nI t) (ht9 : t ≤ 9) (hq : q ≤ 95)
    (h162 : ∀ w, w < 2 ^ D → s 162 w = if F w then 1 else 0) :
    ∃ r, mX11_greatestPart s (nI q) = some ((sp_gr F (fun w => sp_hb N X D V w q t) (2 ^ D)).1, r) ∧ ∀ a, a ≠ 163 → r a = s a := by
  have h7 := hE.nD.2
  have hpow : 2 ^ D ≤ 128 := Nat.pow_le_pow_right (n := 2) (by decide) h7
  obtain ⟨hv, hhv⟩ : ∃ hv : Nat → Nat, hv = fun w => sp_hb N X D V w q t := ⟨_, rfl⟩
  rw [← hhv]
  have hv8 : ∀ w, hv w ≤ 8 := fun w => by rw [hhv]; exact sp_hb_le hE
  unfold mX11_greatestPart
  obtain ⟨r3, g1, g2, g3⟩ := bq_inv (fun n s k => mX11_greatestPart_L4 (nI q) 0 n (nI k) s) 20 (fun k r => (∀ j, j < k → r 163 j = 0) ∧ ∀ a, a ≠ 163 → r a = s a) (fun r => (∀ j, j < 20 → r 163 j = 0) ∧ ∀ a, a ≠ 163 → r a = s a) (by
    intro n k r hk ⟨a1, a2⟩
    by_cases hk8 : k = 20
    · subst hk8
      exact Or.inl ⟨r, by simp only [mX11_greatestPart_L4]; rw [if_pos (show (20 : Int32) ≤ nI 20 by decide)], a1, a2⟩
    · refine Or.inr ⟨by omega, bo_up r 163 k 0, ⟨fun j hj => ?_, fun a ha => by rw [bq_up_o ha]; exact a2 a ha⟩, ?_⟩
      · rw [bq_up]
        by_cases z : j = k
        · rw [if_pos ⟨rfl, z⟩]
        · rw [if_neg (fun y => z y.2)]; exact a1 j (by omega)
      · simp only [mX11_greatestPart_L4]
        rw [if_neg (show ¬ (20 : Int32) ≤ nI k from nI_ge (b := 20) (by omega) (by decide)), bq_st (by omega) (by decide), Option.bind_some, nI_1]) bo_fuel 0 s (Nat.zero_le _) (bq_fuel (by omega)) ⟨fun j hj => absurd hj (Nat.not_lt_zero _), fun _ _ => rfl⟩
  rw [show mX11_greatestPart_L4 (nI q) 0 bo_fuel 0 s = some r3 from g1, Option.bind_some]
  obtain ⟨b, y1, y2, y3⟩ := bq_inv (fun n (a : Int32 × bo_M) k => mX11_greatestPart_L25 (nI q) n a.1 (nI k) a.2) (2 ^ D)
    (fun k a => a.1 = (sp_gr F hv k).1 ∧ (∀ j, j < 20 → a.2 163 j = (sp_gr F hv k).2 j) ∧ ∀ a', a' ≠ 163 → a.2 a' = s a')
    (fun a => a.1 = (sp_gr F hv (2 ^ D)).1 ∧ ∀ a', a' ≠ 163 → a.2 a' = s a') (by
    intro n k ⟨m, r⟩ hk ⟨a1, a2, a3⟩
    dsimp only at a1 a2 a3
    have hKr : kn_r r N V W A H := hK.to (fun a z1 z2 => a3 a z2)
    have eD : r 135 4 = nI D := by rw [hKr.1.1 4 (by decide)]; exact hE.nD.1
    by_cases e : k = 2 ^ D
    · subst e
      exact Or.inl ⟨_, by simp only [mX11_greatestPart_L25, eD]; rw [bq_one_shl (by omega), if_pos (Int32.le_refl _)], a1, a3⟩
    · have hlt : k < 2 ^ D := by omega
      have hh := hv8 k
      have hb := rf_hb hKr.1 hE (w := k) (by omega) hq ht9
      rw [hKr.2.1, show sp_hb N X D V k q t = hv k by rw [hhv]] at hb
      have e162 : r 162 k = if F k then 1 else 0 := by rw [a3 162 (by decide)]; exact h162 k hlt
      have en : sp_gr F hv (k + 1) = if F k then sp_gop hv (sp_gr F hv k) k else sp_gr F hv k := rfl
      rw [en]
      simp only [mX11_greatestPart_L25, eD]
      rw [bq_one_shl (by omega), if_neg (nI_ge hlt (by omega)), bq_ld (by omega) (by decide), Option.bind_some, e162, nI_1]
      cases hk2 : F k with
      | false =>
        exact Or.inr ⟨hlt, (m, r), ⟨a1, a2, a3⟩, by rw [if_pos (show (if false = true then (1 : Int32) else 0) = 0 from rfl), Option.bind_some]⟩
      | true =>
        refine Or.inr ⟨hlt, ((if m < r 163 (hv k) + 1 then r 163 (hv k) + 1 else m), bo_up r 163 (hv k) (r 163 (hv k) + 1)), ⟨?_, ?_, ?_⟩, ?_⟩
        rotate_left 3
        · rw [if_neg (show ¬ (if true = true then (1 : Int32) else 0) = 0 by decide), hKr.1.1 2 (by decide), ht, hb, Option.bind_some, bq_ld (by omega) (by decide), Option.bind_some, bq_st (by omega) (by decide), Option.bind_some, bq_ld (by omega) (by decide), Option.bind_some, Option.bind_some]
          rw [show (if bo_up r 163 (hv k) (r 163 (hv k) + 1) 163 (hv k) ≤ m then some m else some (bo_up r 163 (hv k) (r 163 (hv k) + 1) 163 (hv k))) = some (if m < r 163 (hv k) + 1 then r 163 (hv k) + 1 else m) by
            rw [show ∀ x, bo_up r 163 (hv k) x 163 (hv k) = x from fun x => by rw [bq_up, if_pos ⟨rfl, rfl⟩]]
            by_cases z : m < r 163 (hv k) + 1
            · rw [if_pos z, if_neg (bq_nle.mpr z)]
            · rw [if_neg z, if_pos (bq_nlt.mp z)]]
          simp only [Option.bind_some]
        · rw [if_pos rfl, a1, a2 (hv k) (by omega)]
          rfl
        · intro j hj
          dsimp only
          rw [if_pos rfl, bq_up, a2 (hv k) (by omega), a2 j hj]
          show _ = if j = hv k then _ else _
          by_cases z : j = hv k
          · rw [if_pos ⟨rfl, z⟩, if_pos z]
          · rw [if_neg (fun y => z y.2), if_neg z]
        · intro a' ha
          dsimp only
          rw [bq_up_o ha]; exact a3 a' ha) bo_fuel 0 (0, r3) (Nat.zero_le _) (bq_fuel (by omega)) ⟨rfl, fun j hj => g2 j hj, g3⟩
  refine ⟨b.2, ?_, y3⟩
  rw [show mX11_greatestPart_L25 (nI q) bo_fuel 0 0 r3 = some b from y1, Option.bind_some, y2]
def sp_li (gr : Nat → Int32) (c : Int32) : Nat → Int32 × Int32
  | 0 => (c, -1)
  | q + 1 => if (sp_li gr c q).1 ≤ gr q then sp_li gr c q else (gr q, nI q)
theorem st_listen (h : in_all σ) : ∃ r σ1 σ2, mX10_listen σ = some (r, σ1) ∧ mX11_listen σ1 = some (r, σ2) ∧ in_all σ2 := by
  obtain ⟨D, G, S, X, g, hH, hN, hR⟩ := id h
  have h7 := hH.1.nD.2
  have hpow : 2 ^ D ≤ 128 := Nat.pow_le_pow_right (n := 2) (by decide) h7
  unfold mX10_listen
  rw [hH.2.1.open_]
  by_cases c : σ 135 0 &&& 1 = 0
  · rw [if_pos c]
    refine ⟨_, σ, σ, rfl, ?_, h⟩
    unfold mX11_listen
    rw [if_pos c]
  · rw [if_neg c]
    obtain ⟨W, A, H, hn, hc, hr⟩ := kn_of hH hN hR
    obtain ⟨t, ht, -, ht9⟩ := hH.1.takes
    have hi := bo_inn_ok (σ 0 9)
    obtain ⟨s, E, x1, x2, x3, x4, x5⟩ := cl_find hi hc hH.1 hn ht ht9
    obtain ⟨F, hF⟩ : ∃ F : Nat → Bool, F = fun w => sp_fits σ X D (σ 144) A H W w t := ⟨_, rfl⟩
    rw [← hF] at x3 x4 x5
    have hKs : kn_c s (bo_inn (σ 0 9)) σ D G S X (σ 144) W A H := hc.to hi (fun a z1 z2 z3 => funext fun b => x2 a b z2 (fun z => z1 z.1)) (x2 24 4 (by decide) (by decide))
    obtain ⟨gr, hgr⟩ : ∃ gr : Nat → Int32, gr = fun q => (sp_gr F (fun w => sp_hb σ X D (σ 144) w q t) (2 ^ D)).1 := ⟨_, rfl⟩
    have e0 : s 0 = σ 0 := funext fun b => x2 0 b (by decide) (fun z => absurd z.1 (by decide))
    obtain ⟨b, y1, y2, y3⟩ := bq_inv (fun n (a : (Int32 × Int32) × bo_M) k => mX10_listen_L40 n a.1.1 a.1.2 (nI k) a.2) 96
      (fun k a => a.1 = sp_li gr (nI (sp_cnt F (2 ^ D))) k ∧ ∀ a', a' ≠ 28 → a.2 a' = s a') (fun a => a.1 = (sp_li gr (nI (sp_cnt F (2 ^ D))) 96).2 ∧ ∀ a', a' ≠ 28 → a.2 a' = s a') (by
      intro n k ⟨m, r⟩ hk ⟨a1, a2⟩
      dsimp only at a1 a2
      subst a1
      by_cases e : k = 96
      · subst e
        exact Or.inl ⟨_, by simp only [mX10_listen_L40]; rw [if_pos (show (96 : Int32) ≤ nI 96 by decide)], rfl, a2⟩
      · have hlt : k < 96 := by omega
        obtain ⟨r2, z1, z2⟩ := cl_great (s := r) hi (hKs.to hi (fun a z1 z2 z3 => a2 a z3) (by rw [a2 24 (by decide)])) hH.1 (q := k) ht ht9 (by omega) rfl (by rw [a2 24 (by decide)]; exact x3) x4 (by rw [a2 27 (by decide)]; exact x5)
        refine Or.inr ⟨hlt, (sp_li gr (nI (sp_cnt F (2 ^ D))) (k + 1), r2), ⟨rfl, fun a ha => (z2 a ha).trans (a2 a ha)⟩, ?_⟩
        simp only [mX10_listen_L40]
        rw [if_neg (show ¬ (96 : Int32) ≤ nI k from nI_ge (b := 96) (by omega) (by decide)), a2 0 (by decide), e0, z1, Option.bind_some, nI_1]
        dsimp only
        rw [show (sp_gr F (fun w => sp_hb σ X D (σ 144) w k t) (2 ^ D)).1 = gr k by rw [hgr]]
        show _ = mX10_listen_L40 n (if _ then _ else _ : Int32 × Int32).1 (if _ then _ else _ : Int32 × Int32).2 _ _
        by_cases z : (sp_li gr (nI (sp_cnt F (2 ^ D))) k).1 ≤ gr k
        · rw [if_pos z, if_pos z]
          rfl
        · rw [if_neg z, if_neg z]
          rfl) bo_fuel 0 ((nI (sp_cnt F (2 ^ D)), -1), s) (Nat.zero_le _) (bq_fuel (by omega)) ⟨rfl, fun _ _ => rfl⟩
    have hb : ∀ a', a' ≠ 28 → a' ≠ 27 → a' ≠ 24 → b.2 a' = σ a' := fun a' z1 z2 z3 => by
      rw [y3 a' z1]
      exact funext fun b => x2 a' b z2 (fun z => z3 z.1)
    have hK1 : kn_r b.2 σ (σ 144) W A H := hr.to' (fun a z1 => hb a (by omega) (by omega) (by omega))
    -- the reference
    obtain ⟨d, w1, w2, w3, w4⟩ := bq_inv (fun n (a : Int32 × bo_M) k => mX11_listen_L17 (-1) n a.1 (nI k) a.2) (2 ^ D)
      (fun k a => a.1 = nI (sp_cnt F k) ∧ (∀ w, w < k → a.2 162 w = if F w then 1 else 0) ∧ ∀ a', a' ≠ 162 → a.2 a' = b.2 a') (fun a => a.1 = nI (sp_cnt F (2 ^ D)) ∧ (∀ w, w < 2 ^ D → a.2 162 w = if F w then 1 else 0) ∧ ∀ a', a' ≠ 162 → a.2 a' = b.2 a') (by
      intro n k ⟨m, r⟩ hk ⟨a1, a2, a3⟩
      dsimp only at a1 a2 a3
      subst a1
      have hKr : kn_r r σ (σ 144) W A H := hK1.to (fun a z1 z2 => a3 a z1)
      have eD : r 135 4 = nI D := by rw [hKr.1.1 4 (by decide)]; exact hH.1.nD.1
      by_cases e : k = 2 ^ D
      · subst e
        exact Or.inl ⟨_, by simp only [mX11_listen_L17, eD]; rw [bq_one_shl (by omega), if_pos (Int32.le_refl _)], rfl, a2, a3⟩
      · have hlt : k < 2 ^ D := by omega
        have hfit := rf_fits hKr hH.1 hn (w := k) (by omega) ht9
        rw [show sp_fits σ X D (σ 144) A H W k t = F k by rw [hF]] at hfit
        refine Or.inr ⟨hlt, (nI (sp_cnt F (k + 1)), bo_up r 162 k (if F k then 1 else 0)), ⟨rfl, fun w hw => ?_, fun a' ha => (congrFun (rfl : bo_up r 162 k (if F k then 1 else 0) = _) a').trans ((bq_up_o ha).trans (a3 a' ha))⟩, ?_⟩
        · show bo_up r 162 k _ 162 w = _
          rw [bq_up]
          by_cases z : w = k
          · subst z; rw [if_pos ⟨rfl, rfl⟩]
          · rw [if_neg (fun y => z y.2)]; exact a2 w (by omega)
        · simp only [mX11_listen_L17, eD]
          rw [bq_one_shl (by omega), if_neg (nI_ge hlt (by omega)), hKr.1.1 2 (by decide), ht, hfit, Option.bind_some, show ((if F k then (1 : Int32) else 0) &&& 1) = if F k then 1 else 0 by cases F k <;> rfl, bq_st (by omega) (by decide), Option.bind_some, bq_ld (by omega) (by decide), Option.bind_some, show ∀ x, bo_up r 162 k x 162 k = x from fun x => by rw [bq_up, if_pos ⟨rfl, rfl⟩], nI_1]
          show _ = mX11_listen_L17 (-1) n (nI (sp_cnt F k + (if F k then 1 else 0))) _ _
          cases F k
          · rw [if_pos (show (if false = true then (1 : Int32) else 0) = 0 from rfl), Option.bind_some, show (0 : Int32) = nI 0 from rfl, nI_add]
            rfl
          · rw [if_neg (show ¬ (if true = true then (1 : Int32) else 0) = 0 by decide), Option.bind_some, nI_1]
            rfl) bo_fuel 0 (nI 0, b.2) (Nat.zero_le _) (bq_fuel (by omega)) ⟨rfl, fun w hw => absurd hw (Nat.not_lt_zero _), fun _ _ => rfl⟩
    have hK2 : kn_r d.2 σ (σ 144) W A H := hK1.to (fun a z1 z2 => w4 a z1)
    obtain ⟨f, v1, v2, v3⟩ := bq_inv (fun n (a : (Int32 × Int32) × bo_M) k => mX11_listen_L67 n a.1.2 a.1.1 (nI k) a.2) 96
      (fun k a => a.1 = sp_li gr (nI (sp_cnt F (2 ^ D))) k ∧ ∀ a', a' ≠ 163 → a.2 a' = d.2 a') (fun a => a.1 = (sp_li gr (nI (sp_cnt F (2 ^ D))) 96).2 ∧ ∀ a', a' ≠ 163 → a.2 a' = d.2 a') (by
      intro n k ⟨m, r⟩ hk ⟨a1, a2⟩
      dsimp only at a1 a2
      subst a1
      by_cases e : k = 96
      · subst e
        exact Or.inl ⟨_, by simp only [mX11_listen_L67]; rw [if_pos (show (96 : Int32) ≤ nI 96 by decide)], rfl, a2⟩
      · have hlt : k < 96 := by omega
        obtain ⟨r2, z1, z2⟩ := rf_great (s := r) (F := F) (hK2.to (fun a z1 z2 => a2 a z2)) hH.1 (q := k) ht ht9 (by omega) (by rw [a2 162 (by decide)]; exact w3)
        refine Or.inr ⟨hlt, (sp_li gr (nI (sp_cnt F (2 ^ D))) (k + 1), r2), ⟨rfl, fun a ha => (z2 a ha).trans (a2 a ha)⟩, ?_⟩
        simp only [mX11_listen_L67]
        rw [if_neg (show ¬ (96 : Int32) ≤ nI k from nI_ge (b := 96) (by omega) (by decide)), z1, Option.bind_some, nI_1]
        dsimp only
        rw [show (sp_gr F (fun w => sp_hb σ X D (σ 144) w k t) (2 ^ D)).1 = gr k by rw [hgr]]
        show _ = mX11_listen_L67 n (if _ then _ else _ : Int32 × Int32).2 (if _ then _ else _ : Int32 × Int32).1 _ _
        by_cases z : (sp_li gr (nI (sp_cnt F (2 ^ D))) k).1 ≤ gr k
        · simp only [if_pos z, Option.bind_some]
        · simp only [if_neg z, Option.bind_some]) bo_fuel 0 ((nI (sp_cnt F (2 ^ D)), -1), d.2) (Nat.zero_le _) (bq_fuel (by omega)) ⟨rfl, fun _ _ => rfl⟩
    refine ⟨(sp_li gr (nI (sp_cnt F (2 ^ D))) 96).2, b.2, f.2, ?_, ?_, ?_⟩
    · rw [x1, Option.bind_some, x3, show mX10_listen_L40 bo_fuel (nI (sp_cnt F (2 ^ D))) (-1) 0 s = some b from y1, Option.bind_some, y2]
    · unfold mX11_listen
      rw [hb 135 (by decide) (by decide) (by decide), if_neg c, show mX11_listen_L17 (-1) bo_fuel 0 0 b.2 = some d from w1, Option.bind_some, w2, show mX11_listen_L67 bo_fuel (-1) (nI (sp_cnt F (2 ^ D))) 0 d.2 = some f from v1, Option.bind_some, v2]
    · refine in_all.scr h (fun a b' hs => ?_)
      have q1 : a ≠ 28 := fun z => hs (by unfold in_scr; omega)
      have q2 : a ≠ 162 := fun z => hs (by unfold in_scr; omega)
      have q3 : a ≠ 163 := fun z => hs (by unfold in_scr; omega)
      rw [v3 a q3, w4 a q2, y3 a q1]
      exact x2 a b' (fun z => hs (by unfold in_scr; omega)) (fun z => hs (by unfold in_scr; omega))
end LISTEN
