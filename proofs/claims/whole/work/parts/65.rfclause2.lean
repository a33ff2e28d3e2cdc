/-! the reference: goers, the law, signals, times -/
section RFCLAUSE2
variable {σ σ' s N : bo_M} {T : Nat → Nat} {m a i D G S X : Nat}
theorem rG_is (σ : bo_M) : (mX11_takeGoer σ).bind rfin = (mX11_into (bo_up σ 135 33 (σ 135 33 + 1)) 6 152 (σ 135 33) 0 95).bind fun x => (rIf (fun s => mX11_into s 6 153 (σ 135 33) 0 40) x).bind rfin := by
  unfold mX11_takeGoer rIf
  simp only [Option.bind_some, bq_bp, Option.bind_assoc]
theorem rf_goer {y : PS} (hr : rr σ T m y) (c : y.2.2.2.1 < 6) (hlt : y.1 < m) : rf_res T m σ ((mX11_takeGoer (bo_up σ 135 21 (nI (y.1 + 1)))).bind rfin) (ps_goer T m y) := by
  rw [rG_is]
  obtain ⟨a, N, D, G, S, X⟩ := y
  unfold ps_goer
  obtain ⟨h1, h2, h3, h4, q1, q2, q3, q4, q5, q6, q7, q8, q9, q10, q11⟩ := hr
  dsimp only at h2 h3 q1 q2 q3 q4 q5 q6 q7 q8 q9 q10 q11 c hlt ⊢
  have hm := h1.1
  rw [if_pos c, bq_up, if_neg (by omega), q5, nI_1]
  obtain ⟨s0, hs0⟩ : ∃ s0, s0 = bo_up (bo_up σ 135 21 (nI (a + 1))) 135 33 (nI (G + 1)) := ⟨_, rfl⟩
  rw [← hs0]
  have f0 : frQ σ s0 := fun x b z1 z2 => by rw [hs0, bq_up, if_neg (by omega), bq_up, if_neg (by omega)]
  have r0 : ∀ x b, ¬ (x = 135 ∧ (b = 21 ∨ b = 33)) → s0 x b = σ x b := fun x b z => by rw [hs0, bq_up, if_neg (by omega), bq_up, if_neg (by omega)]
  refine rf_num_step (l := 0) (u := 95) (by omega) (by omega) rfl rfl c (by decide) (by omega) rfl (fun c t z1 z2 => by rw [rIf_bad z1 z2, Option.bind_some]) f0 (h1.Q f0) (by rw [hs0, bq_up, if_neg (by omega), bq_up_s]) (by omega) (fun v1 a1 t1 w1 w2 w3 _ w5 w6 w7 w8 => ?_)
  rw [rIf_ok]
  have f1 : frQ σ t1 := f0.tr (fun x b z1 z2 => w1 x b (by omega) (by omega))
  refine rf_num_step (l := 0) (u := 40) (by omega) (by omega) rfl rfl c (by decide) (by omega) rfl (fun c t z1 z2 => rfl) f1 (h1.Q f1) w2 (by omega) (fun v2 a2 t2 x1 x2 x3 _ x5 x6 x7 x8 => ?_)
  have f2 : frQ σ t2 := f1.tr (fun x b z1 z2 => x1 x b (by omega) (by omega))
  refine rf_end_step f2 (h1.Q f2) x2 (by omega) (fun a4 t4 z1 z2 z3 z4 => ?_)
  have ro : ∀ x b, ¬ (x = 135 ∧ ((20 ≤ b ∧ b ≤ 23) ∨ b = 33)) → ¬ (x = 152 ∧ b = G) → ¬ (x = 153 ∧ b = G) → t4 x b = σ x b := fun x b k1 k2 k3 => by
    rw [z1 x b (by omega), x1 x b (by omega) (by omega), w1 x b (by omega) (by omega), r0 x b (by omega)]
  refine ⟨t4, rfl, f2.tr z1.Q, h1.Q (f2.tr z1.Q), z2, z3, ?_, ?_, ?_, ?_, ?_, ?_, ?_, ?_, fun d hd => ?_, fun d hd => ?_, fun d hd => ?_, fun d hd => ?_⟩
  · rw [z4, x5, w5, r0 135 20 (by omega)]; exact h4
  · rw [ro 135 24 (by omega) (by omega) (by omega)]; simpa [bq_up] using q1
  · simpa [bq_up] using q2
  · rw [ro 146 0 (by omega) (by omega) (by omega), ro 146 1 (by omega) (by omega) (by omega), ro 146 2 (by omega) (by omega) (by omega)]; simpa [bq_up] using q3
  · rw [ro 135 26 (by omega) (by omega) (by omega)]; exact q4
  · rw [z1 135 33 (by omega), x1 135 33 (by omega) (by omega), w1 135 33 (by omega) (by omega), hs0, bq_up_s]
  · rw [ro 135 36 (by omega) (by omega) (by omega)]; exact q6
  · rw [ro 135 30 (by omega) (by omega) (by omega)]; exact q7
  · rw [ro 147 d (by omega) (by omega) (by omega), ro 148 d (by omega) (by omega) (by omega), ro 149 d (by omega) (by omega) (by omega)]
    simpa [bq_up] using q8 d hd
  · rw [ro 150 d (by omega) (by omega) (by omega), ro 151 d (by omega) (by omega) (by omega)]
    simpa [bq_up] using q9 d hd
  · by_cases k : d = G
    · subst k
      refine ⟨?_, ?_⟩
      · rw [z1 152 d (by omega), x1 152 d (by omega) (by omega), w3]; simp [bq_up]
      · rw [z1 153 d (by omega), x3]; simp [bq_up]
    · have h' := q10 d (show d < G by dsimp only at hd; omega)
      rw [ro 152 d (by omega) (by omega) (by omega), ro 153 d (by omega) (by omega) (by omega)]
      simpa [bq_up, k] using h'
  · rw [ro 154 d (by omega) (by omega) (by omega)]
    simpa [bq_up] using q11 d hd
/-! the law -/
theorem rB_is (σ : bo_M) : (mX11_takeLaw σ).bind rfin = (mX11_into (bo_up σ 135 24 1) 3 146 0 0 1).bind fun x => (rIf (fun s => mX11_into s 3 146 1 0 9) x).bind fun x => (rIf (fun s => mX11_into s 3 146 2 0 127) x).bind rfin := by
  unfold mX11_takeLaw rIf
  simp only [Option.bind_some, bq_bp, Option.bind_assoc]
theorem rf_law {y : PS} (hr : rr σ T m y) (c : y.2.1 135 0 &&& 1 = 0) (hlt : y.1 < m) : rf_res T m σ ((mX11_takeLaw (bo_up σ 135 21 (nI (y.1 + 1)))).bind rfin) (ps_bell T m y) := by
  rw [rB_is]
  obtain ⟨a, N, D, G, S, X⟩ := y
  unfold ps_bell
  obtain ⟨h1, h2, h3, h4, q1, q2, q3, q4, q5, q6, q7, q8, q9, q10, q11⟩ := hr
  dsimp only at h2 h3 q1 q2 q3 q4 q5 q6 q7 q8 q9 q10 q11 c hlt ⊢
  have hm := h1.1
  rw [if_pos c]
  obtain ⟨s0, hs0⟩ : ∃ s0, s0 = bo_up (bo_up σ 135 21 (nI (a + 1))) 135 24 1 := ⟨_, rfl⟩
  rw [← hs0]
  have f0 : frQ σ s0 := fun x b z1 z2 => by rw [hs0, bq_up, if_neg (by omega), bq_up, if_neg (by omega)]
  have r0 : ∀ x b, ¬ (x = 135 ∧ (b = 21 ∨ b = 24)) → s0 x b = σ x b := fun x b z => by rw [hs0, bq_up, if_neg (by omega), bq_up, if_neg (by omega)]
  refine rf_num_step (l := 0) (u := 1) (k := 0) (by omega) (by omega) rfl rfl (by omega) (by decide) (by omega) rfl (fun c t z1 z2 => by rw [rIf_bad z1 z2, Option.bind_some, rIf_bad z1 z2, Option.bind_some]) f0 (h1.Q f0) (by rw [hs0, bq_up, if_neg (by omega), bq_up_s]) (by omega) (fun v1 a1 t1 w1 w2 w3 _ w5 w6 w7 w8 => ?_)
  rw [rIf_ok]
  have f1 : frQ σ t1 := f0.tr (fun x b z1 z2 => w1 x b (by omega) (by omega))
  refine rf_num_step (l := 0) (u := 9) (k := 1) (by omega) (by omega) rfl rfl (by omega) (by decide) (by omega) rfl (fun c t z1 z2 => by rw [rIf_bad z1 z2, Option.bind_some]) f1 (h1.Q f1) w2 (by omega) (fun v2 a2 t2 x1 x2 x3 _ x5 x6 x7 x8 => ?_)
  rw [rIf_ok]
  have f2 : frQ σ t2 := f1.tr (fun x b z1 z2 => x1 x b (by omega) (by omega))
  refine rf_num_step (l := 0) (u := 127) (k := 2) (by omega) (by omega) rfl rfl (by omega) (by decide) (by omega) rfl (fun c t z1 z2 => rfl) f2 (h1.Q f2) x2 (by omega) (fun v3 a3 t3 y1 y2 y3 _ y5 y6 y7 y8 => ?_)
  have f3 : frQ σ t3 := f2.tr (fun x b z1 z2 => y1 x b (by omega) (by omega))
  refine rf_end_step f3 (h1.Q f3) y2 (by omega) (fun a4 t4 z1 z2 z3 z4 => ?_)
  have ro : ∀ x b, ¬ (x = 135 ∧ ((20 ≤ b ∧ b ≤ 23) ∨ b = 24)) → ¬ (x = 146) → t4 x b = σ x b := fun x b k1 k2 => by
    rw [z1 x b (by omega), y1 x b (by omega) (by omega), x1 x b (by omega) (by omega), w1 x b (by omega) (by omega), r0 x b (by omega)]
  refine ⟨t4, rfl, f3.tr z1.Q, h1.Q (f3.tr z1.Q), z2, z3, ?_, ?_, ?_, ?_, ?_, ?_, ?_, ?_, fun d hd => ?_, fun d hd => ?_, fun d hd => ?_, fun d hd => ?_⟩
  · rw [z4, y5, x5, w5, r0 135 20 (by omega)]; exact h4
  · rw [z1 135 24 (by omega), y1 135 24 (by omega) (by omega), x1 135 24 (by omega) (by omega), w1 135 24 (by omega) (by omega), hs0, bq_up_s]; simp [bq_up]
  · intro z
    exfalso
    revert z
    simp [bq_up]
  · intro _
    rw [z1 146 0 (by omega), y1 146 0 (by omega) (by omega), x1 146 0 (by omega) (by omega), w3, z1 146 1 (by omega), y1 146 1 (by omega) (by omega), x3, z1 146 2 (by omega), y3]
    simp [bq_up]
  · rw [ro 135 26 (by omega) (by omega)]; exact q4
  · rw [ro 135 33 (by omega) (by omega)]; exact q5
  · rw [ro 135 36 (by omega) (by omega)]; exact q6
  · rw [ro 135 30 (by omega) (by omega)]; exact q7
  · rw [ro 147 d (by omega) (by omega), ro 148 d (by omega) (by omega), ro 149 d (by omega) (by omega)]
    simpa [bq_up] using q8 d hd
  · rw [ro 150 d (by omega) (by omega), ro 151 d (by omega) (by omega)]
    simpa [bq_up] using q9 d hd
  · rw [ro 152 d (by omega) (by omega), ro 153 d (by omega) (by omega)]
    simpa [bq_up] using q10 d hd
  · rw [ro 154 d (by omega) (by omega)]
    simpa [bq_up] using q11 d hd
/-! times -/
noncomputable def rT2 (p : Int32) (x : Int32 × bo_M) : Option (Int32 × bo_M) :=
  (bo_ld 4 x.2 150 p).bind fun v3 => (Option.bind (α := Int32) (if 24 ≤ (96 - v3) then some 24 else (bo_ld 4 x.2 150 p).bind fun v5 => some (96 - v5)) fun a4 => rIf (fun s => mX11_into s 4 151 p 1 a4) x)
theorem rT_is (σ : bo_M) : (mX11_takeTime σ).bind rfin = (mX11_into (bo_up σ 135 30 (σ 135 30 + 1)) 4 150 (σ 135 30) 0 95).bind fun x => (rT2 (σ 135 30) x).bind rfin := by
  unfold mX11_takeTime rT2 rIf
  simp only [Option.bind_some, bq_bp, Option.bind_assoc]
theorem rf_time {y : PS} (hr : rr σ T m y) (c : y.2.2.2.2.2 < 4) (hlt : y.1 < m) : rf_res T m σ ((mX11_takeTime (bo_up σ 135 21 (nI (y.1 + 1)))).bind rfin) (ps_sexton T m y) := by
  rw [rT_is]
  obtain ⟨a, N, D, G, S, X⟩ := y
  unfold ps_sexton
  obtain ⟨h1, h2, h3, h4, q1, q2, q3, q4, q5, q6, q7, q8, q9, q10, q11⟩ := hr
  dsimp only at h2 h3 q1 q2 q3 q4 q5 q6 q7 q8 q9 q10 q11 c hlt ⊢
  have hm := h1.1
  rw [if_pos c, bq_up, if_neg (by omega), q7, nI_1]
  obtain ⟨s0, hs0⟩ : ∃ s0, s0 = bo_up (bo_up σ 135 21 (nI (a + 1))) 135 30 (nI (X + 1)) := ⟨_, rfl⟩
  rw [← hs0]
  have f0 : frQ σ s0 := fun x b z1 z2 => by rw [hs0, bq_up, if_neg (by omega), bq_up, if_neg (by omega)]
  have r0 : ∀ x b, ¬ (x = 135 ∧ (b = 21 ∨ b = 30)) → s0 x b = σ x b := fun x b z => by rw [hs0, bq_up, if_neg (by omega), bq_up, if_neg (by omega)]
  refine rf_num_step (l := 0) (u := 95) (by omega) (by omega) rfl rfl c (by decide) (by omega) rfl (fun c' t z1 z2 => ?_) f0 (h1.Q f0) (by rw [hs0, bq_up, if_neg (by omega), bq_up_s]) (by omega) (fun v1 a1 t1 w1 w2 w3 _ w5 w6 w7 w8 => ?_)
  · unfold rT2
    dsimp only
    rw [bq_ld c (by decide), Option.bind_some, Option.bind_some]
    by_cases k : 24 ≤ 96 - t 150 X
    · rw [if_pos k, Option.bind_some, rIf_bad z1 z2, Option.bind_some]
    · rw [if_neg k, Option.bind_some, rIf_bad z1 z2, Option.bind_some]
  unfold rT2
  dsimp only
  rw [bq_ld c (by decide), Option.bind_some, Option.bind_some, w3]
  have eh : (if (24 : Int32) ≤ 96 - nI v1 then some (24 : Int32) else some (96 - nI v1)) = some (nI (min 24 (96 - v1))) := by
    rw [show (96 : Int32) - nI v1 = nI (96 - v1) from pk_sub (a := 96) (by omega)]
    by_cases z : 24 ≤ 96 - v1
    · rw [if_pos (show 24 ≤ nI (96 - v1) from nI_le (a := 24) z (by omega)), Nat.min_eq_left z]; rfl
    · rw [if_neg (show ¬ 24 ≤ nI (96 - v1) from nI_ge (b := 24) (by omega) (by decide)), Nat.min_eq_right (by omega)]
  rw [eh, Option.bind_some, rIf_ok]
  have f1 : frQ σ t1 := f0.tr (fun x b z1 z2 => w1 x b (by omega) (by omega))
  refine rf_num_step (l := 1) (u := min 24 (96 - v1)) (by omega) (by omega) rfl rfl c (by decide) (by omega) rfl (fun c t z1 z2 => rfl) f1 (h1.Q f1) w2 (by omega) (fun v2 a2 t2 x1 x2 x3 _ x5 x6 x7 x8 => ?_)
  have f2 : frQ σ t2 := f1.tr (fun x b z1 z2 => x1 x b (by omega) (by omega))
  refine rf_end_step f2 (h1.Q f2) x2 (by omega) (fun a4 t4 z1 z2 z3 z4 => ?_)
  have ro : ∀ x b, ¬ (x = 135 ∧ ((20 ≤ b ∧ b ≤ 23) ∨ b = 30)) → ¬ (x = 150 ∧ b = X) → ¬ (x = 151 ∧ b = X) → t4 x b = σ x b := fun x b k1 k2 k3 => by
    rw [z1 x b (by omega), x1 x b (by omega) (by omega), w1 x b (by omega) (by omega), r0 x b (by omega)]
  refine ⟨t4, rfl, f2.tr z1.Q, h1.Q (f2.tr z1.Q), z2, z3, ?_, ?_, ?_, ?_, ?_, ?_, ?_, ?_, fun d hd => ?_, fun d hd => ?_, fun d hd => ?_, fun d hd => ?_⟩
  · rw [z4, x5, w5, r0 135 20 (by omega)]; exact h4
  · rw [ro 135 24 (by omega) (by omega) (by omega)]; simpa [bq_up] using q1
  · simpa [bq_up] using q2
  · rw [ro 146 0 (by omega) (by omega) (by omega), ro 146 1 (by omega) (by omega) (by omega), ro 146 2 (by omega) (by omega) (by omega)]; simpa [bq_up] using q3
  · rw [ro 135 26 (by omega) (by omega) (by omega)]; exact q4
  · rw [ro 135 33 (by omega) (by omega) (by omega)]; exact q5
  · rw [ro 135 36 (by omega) (by omega) (by omega)]; exact q6
  · rw [z1 135 30 (by omega), x1 135 30 (by omega) (by omega), w1 135 30 (by omega) (by omega), hs0, bq_up_s]
  · rw [ro 147 d (by omega) (by omega) (by omega), ro 148 d (by omega) (by omega) (by omega), ro 149 d (by omega) (by omega) (by omega)]
    simpa [bq_up] using q8 d hd
  · by_cases k : d = X
    · subst k
      refine ⟨?_, ?_⟩
      · rw [z1 150 d (by omega), x1 150 d (by omega) (by omega), w3]; simp [bq_up]
      · rw [z1 151 d (by omega), x3]; simp [bq_up]
    · have h' := q9 d (show d < X by dsimp only at hd; omega)
      rw [ro 150 d (by omega) (by omega) (by omega), ro 151 d (by omega) (by omega) (by omega)]
      simpa [bq_up, k] using h'
  · rw [ro 152 d (by omega) (by omega) (by omega), ro 153 d (by omega) (by omega) (by omega)]
    simpa [bq_up] using q10 d hd
  · rw [ro 154 d (by omega) (by omega) (by omega)]
    simpa [bq_up] using q11 d hd
/-! signals -/
theorem rS_is (σ : bo_M) : (mX11_takeSignal σ).bind rfin = (mX11_into (bo_up σ 135 36 (σ 135 36 + 1)) 5 154 (σ 135 36) 1 16).bind fun x => (mX11_takeSignal_L30 (σ 135 36) x.1 bo_fuel 0 x.2).bind rfin := by
  unfold mX11_takeSignal
  simp only [Option.bind_some, Option.bind_assoc]
theorem rS_bad {c : Nat} (h1 : 1 ≤ c) (h4 : c ≤ 4) (t : bo_M) : mX11_takeSignal_L30 (nI S) (nI c) bo_fuel 0 t = some (nI c, t) := by
  obtain ⟨n, hn⟩ : ∃ n, bo_fuel = n + 1 := ⟨bo_fuel - 1, by have := bo_fuel_le; omega⟩
  rw [hn]
  simp only [mX11_takeSignal_L30]
  rw [if_neg (nz h1 h4), ite_self]
theorem rS_ok (hS : S < 5) (t : bo_M) : mX11_takeSignal_L30 (nI S) 0 bo_fuel 0 t = some (if sp_any (fun k => decide (t 154 k = t 154 S)) S then (4, bo_up t 135 20 (t 135 23)) else (0, t)) := by
  obtain ⟨b, hb, hq⟩ := bq_inv (fun n (_ : Unit) k => mX11_takeSignal_L30 (nI S) 0 n (nI k) t) S (fun k _ => sp_any (fun k => decide (t 154 k = t 154 S)) k = false) (fun r => r = if sp_any (fun k => decide (t 154 k = t 154 S)) S then (4, bo_up t 135 20 (t 135 23)) else (0, t)) (by
    intro n k _ hk hP
    by_cases z : k = S
    · subst z
      exact Or.inl ⟨_, by simp only [mX11_takeSignal_L30]; rw [if_pos (Int32.le_refl _)], by rw [hP]; rfl⟩
    · have hlt : k < S := by omega
      simp only [mX11_takeSignal_L30]
      rw [if_neg (nI_ge hlt (by omega)), if_pos trivial, bq_ld (by omega) (by decide), Option.bind_some, bq_ld (by omega) (by decide), Option.bind_some, rf_fails, Option.bind_some]
      by_cases c : t 154 k = t 154 S
      · refine Or.inl ⟨_, by rw [if_pos c], ?_⟩
        rw [(sp_any_iff _ S).mpr ⟨k, hlt, decide_eq_true c⟩]
        rfl
      · refine Or.inr ⟨hlt, (), ?_, by rw [if_neg c, nI_1]⟩
        rw [sp_any_succ, hP]
        simp [c]) bo_fuel 0 () (Nat.zero_le _) (bq_fuel (by omega)) rfl
  rw [show mX11_takeSignal_L30 (nI S) 0 bo_fuel 0 t = some b from hb, hq]
theorem rf_signal {y : PS} (hr : rr σ T m y) (c : y.2.2.2.2.1 < 5) (hlt : y.1 < m) : rf_res T m σ ((mX11_takeSignal (bo_up σ 135 21 (nI (y.1 + 1)))).bind rfin) (ps_signal T m y) := by
  rw [rS_is]
  obtain ⟨a, N, D, G, S, X⟩ := y
  unfold ps_signal
  obtain ⟨h1, h2, h3, h4, q1, q2, q3, q4, q5, q6, q7, q8, q9, q10, q11⟩ := hr
  dsimp only at h2 h3 q1 q2 q3 q4 q5 q6 q7 q8 q9 q10 q11 c hlt ⊢
  have hm := h1.1
  rw [if_pos c, bq_up, if_neg (by omega), q6, nI_1]
  obtain ⟨s0, hs0⟩ : ∃ s0, s0 = bo_up (bo_up σ 135 21 (nI (a + 1))) 135 36 (nI (S + 1)) := ⟨_, rfl⟩
  rw [← hs0]
  have f0 : frQ σ s0 := fun x b z1 z2 => by rw [hs0, bq_up, if_neg (by omega), bq_up, if_neg (by omega)]
  have r0 : ∀ x b, ¬ (x = 135 ∧ (b = 21 ∨ b = 36)) → s0 x b = σ x b := fun x b z => by rw [hs0, bq_up, if_neg (by omega), bq_up, if_neg (by omega)]
  refine rf_num_step (l := 1) (u := 16) (by omega) (by omega) rfl rfl c (by decide) (by omega) rfl (fun c' t z1 z2 => by dsimp only; rw [rS_bad z1 z2, Option.bind_some]) f0 (h1.Q f0) (by rw [hs0, bq_up, if_neg (by omega), bq_up_s]) (by omega) (fun v1 a1 t1 w1 w2 w3 w4 w5 w6 w7 w8 => ?_)
  have f1 : frQ σ t1 := f0.tr (fun x b z1 z2 => w1 x b (by omega) (by omega))
  have eany : sp_any (fun k => decide (t1 154 k = t1 154 S)) S = sp_any (fun k => decide (N 143 k = nI v1)) S := sp_any_cong (fun k hk => by rw [w3, w1 154 k (by omega) (by omega), r0 154 k (by omega), q11 k hk])
  dsimp only
  rw [rS_ok c, eany, Option.bind_some]
  cases ha : sp_any (fun k => decide (N 143 k = nI v1)) S with
  | true =>
    rw [if_pos rfl, if_pos rfl, w4]
    exact rfin_bad (c := 4) (p := ps_sk T m (a + 1)) (by omega) (by omega) (f1.tr (fn.up (by omega)).Q) bq_up_s
  | false =>
    rw [if_neg (by decide), if_neg (by decide)]
    refine rf_end_step f1 (h1.Q f1) w2 (by omega) (fun a4 t4 z1 z2 z3 z4 => ?_)
    have ro : ∀ x b, ¬ (x = 135 ∧ ((20 ≤ b ∧ b ≤ 23) ∨ b = 36)) → ¬ (x = 154 ∧ b = S) → t4 x b = σ x b := fun x b k1 k2 => by
      rw [z1 x b (by omega), w1 x b (by omega) (by omega), r0 x b (by omega)]
    refine ⟨t4, rfl, f1.tr z1.Q, h1.Q (f1.tr z1.Q), z2, z3, ?_, ?_, ?_, ?_, ?_, ?_, ?_, ?_, fun d hd => ?_, fun d hd => ?_, fun d hd => ?_, fun d hd => ?_⟩
    · rw [z4, w5, r0 135 20 (by omega)]; exact h4
    · rw [ro 135 24 (by omega) (by omega)]; simpa [bq_up] using q1
    · simpa [bq_up] using q2
    · rw [ro 146 0 (by omega) (by omega), ro 146 1 (by omega) (by omega), ro 146 2 (by omega) (by omega)]; simpa [bq_up] using q3
    · rw [ro 135 26 (by omega) (by omega)]; exact q4
    · rw [ro 135 33 (by omega) (by omega)]; exact q5
    · rw [z1 135 36 (by omega), w1 135 36 (by omega) (by omega), hs0, bq_up_s]
    · rw [ro 135 30 (by omega) (by omega)]; exact q7
    · rw [ro 147 d (by omega) (by omega), ro 148 d (by omega) (by omega), ro 149 d (by omega) (by omega)]
      simpa [bq_up] using q8 d hd
    · rw [ro 150 d (by omega) (by omega), ro 151 d (by omega) (by omega)]
      simpa [bq_up] using q9 d hd
    · rw [ro 152 d (by omega) (by omega), ro 153 d (by omega) (by omega)]
      simpa [bq_up] using q10 d hd
    · by_cases k : d = S
      · subst k
        rw [z1 154 d (by omega), w3]; simp [bq_up]
      · have h' := q11 d (show d < S by dsimp only at hd; omega)
        rw [ro 154 d (by omega) (by omega)]
        simpa [bq_up, k] using h'
end RFCLAUSE2
