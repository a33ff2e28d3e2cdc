/-! come, go, treat, turn, hang, rain -/
section WRITERS
variable {σ σ' : bo_M} {D G S X g e B : Nat} {V U : Nat → Int32}
theorem sp_ag.fr (hs : ∀ a b, (136 ≤ a ∧ a ≤ 143) ∨ (a = 135 ∧ (b ≤ 4 ∨ b = 8 ∨ b = 11 ∨ b = 14)) → σ' a b = σ a b) : sp_ag σ' σ :=
  ⟨fun b hb => hs 135 b (by omega), fun a z1 z2 b => hs a b (by omega)⟩
theorem sp_rep_gen (h : sp_rep σ e D V g) (hlog : ∀ a, a = e + 3 ∨ a = e + 4 → σ' a = σ a) (h4 : σ' e 4 = U 21) (h5 : σ' e 5 = nI (sp_set (fun d => decide (U d = 1)) D)) (h6 : σ' e 6 = U 22) (h7 : σ' e 7 = U 23) (h8 : σ' e 8 = U 24) (h9 : σ' e 9 = U 25)
    (hd : ∀ d, d < 7 → σ' (e + 1) d = U (7 + d) ∧ σ' (e + 2) d = U (14 + d)) (hU : ∀ j, 27 ≤ j → U j = V j) : sp_rep σ' e D U g :=
  ⟨h4, h5, h6, h7, h8, h9, hd, fun k hk => by rw [hlog (e + 3) (by omega), hlog (e + 4) (by omega), hU (27 + k) (by omega), hU (67 + k) (by omega)]; exact h.lg k hk⟩
theorem sp_wf_gen (h : sp_wf D B V g) (h1 : ∀ d, d < 7 → bq_r (U d) 0 1 ∧ bq_r (U (7 + d)) 0 20 ∧ bq_r (U (14 + d)) 0 39) (hno : ∀ d, D ≤ d → d < 7 → U (7 + d) = 0) (h21 : U 21 = V 21) (h26 : U 26 = V 26)
    (h22 : bq_r (U 22) 0 11) (h23 : bq_r (U 23) 0 96) (h25 : bq_r (U 25) 0 2) (hU : ∀ j, 27 ≤ j → U j = V j) : sp_wf D B U g :=
  ⟨h1, hno, ⟨by rw [h21]; exact h.ng.1, h.ng.2⟩, by rw [h26]; exact h.L, h22, h23, h25, fun k hk => by rw [hU (27 + k) (by omega), hU (67 + k) (by omega)]; exact h.lg k hk⟩
theorem sp_set_add {b : Nat → Bool} {n d : Nat} (h : d < n) : sp_set b n ||| 2 ^ d = sp_set (fun k => b k || decide (k = d)) n := by
  apply Nat.eq_of_testBit_eq
  intro k
  rw [Nat.testBit_or, sp_set_bit, sp_set_bit, Nat.testBit_two_pow]
  by_cases e : k = d
  · subst e; simp [h]
  · simp [e, Ne.symm e]
theorem bq_del {b : Nat → Bool} {n d : Nat} (hn : n ≤ 7) (h : d < n) : nI (sp_set b n) &&& (nI (2 ^ d) ^^^ (-1)) = nI (sp_set (fun k => b k && !decide (k = d)) n) := by
  rw [bq_not n (Nat.pow_lt_pow_right (by decide) h) (by omega) (sp_set_lt _ _)]
  congr 1
  refine sp_set_cong (fun k hk => ?_)
  rw [sp_set_bit, Nat.testBit_two_pow]
  by_cases e : k = d
  · subst e; simp
  · simp [e, Ne.symm e, hk]
/-- one drinker is put to v, 0 or 1 -/
theorem sp_in_up {v : Int32} {d : Nat} : (fun k => decide ((fun j => if j = d then v else V j) k = 1)) = fun k => if k = d then decide (v = 1) else decide (V k = 1) := by
  funext k
  by_cases e : k = d
  · subst e; simp
  · simp [e]
theorem sp_in_1 {d : Nat} (hd : d < D) : nI (sp_set (fun k => decide (V k = 1)) D) ||| nI (2 ^ d) = nI (sp_set (fun k => decide ((fun j => if j = d then (1 : Int32) else V j) k = 1)) D) := by
  rw [fa_or, sp_set_add hd, sp_in_up]
  congr 1
  refine sp_set_cong (fun k hk => ?_)
  by_cases e : k = d
  · subst e; simp
  · simp [e]
theorem sp_in_0 {d : Nat} (h7 : D ≤ 7) (hd : d < D) : nI (sp_set (fun k => decide (V k = 1)) D) &&& (nI (2 ^ d) ^^^ (-1)) = nI (sp_set (fun k => decide ((fun j => if j = d then (0 : Int32) else V j) k = 1)) D) := by
  rw [bq_del h7 hd, sp_in_up]
  congr 1
  refine sp_set_cong (fun k hk => ?_)
  by_cases e : k = d
  · subst e; simp
  · simp [e]
theorem sp_rep_in {d : Nat} {v : Int32} (h : sp_rep σ e D V g) (hs : ∀ a b, e ≤ a → a ≤ e + 4 → ¬ (a = e ∧ b = 5) → σ' a b = σ a b) (hd : d < 7) (h5 : σ' e 5 = nI (sp_set (fun k => decide ((fun j => if j = d then v else V j) k = 1)) D)) : sp_rep σ' e D (fun j => if j = d then v else V j) g := by
  refine sp_rep_gen h (fun a ha => funext fun b => hs a b (by omega) (by omega) (by omega)) ?_ h5 ?_ ?_ ?_ ?_ (fun k hk => ⟨?_, ?_⟩) (fun j hj => if_neg (by omega))
  · rw [hs e 4 (by omega) (by omega) (by omega), if_neg (by omega)]; exact h.gone
  · rw [hs e 6 (by omega) (by omega) (by omega), if_neg (by omega)]; exact h.bell
  · rw [hs e 7 (by omega) (by omega) (by omega), if_neg (by omega)]; exact h.hung
  · rw [hs e 8 (by omega) (by omega) (by omega), if_neg (by omega)]; exact h.paid
  · rw [hs e 9 (by omega) (by omega) (by omega), if_neg (by omega)]; exact h.rain
  · rw [hs (e + 1) k (by omega) (by omega) (by omega), if_neg (by omega)]; exact (h.dr k hk).1
  · rw [hs (e + 2) k (by omega) (by omega) (by omega), if_neg (by omega)]; exact (h.dr k hk).2
theorem sp_wf_in {d : Nat} {v : Int32} (h : sp_wf D B V g) (hd : d < 7) (hv : bq_r v 0 1) : sp_wf D B (fun j => if j = d then v else V j) g := by
  refine sp_wf_gen h (fun k hk => ⟨?_, ?_, ?_⟩) (fun k h1 h2 => ?_) (if_neg (by omega)) (if_neg (by omega)) ?_ ?_ ?_ (fun j hj => if_neg (by omega))
  · by_cases z : k = d
    · rw [if_pos z]; exact hv
    · rw [if_neg z]; exact (h.dr k hk).1
  · rw [if_neg (by omega)]; exact (h.dr k hk).2.1
  · rw [if_neg (by omega)]; exact (h.dr k hk).2.2
  · rw [if_neg (by omega)]; exact h.no k h1 h2
  · rw [if_neg (by omega)]; exact h.bell
  · rw [if_neg (by omega)]; exact h.hung
  · rw [if_neg (by omega)]; exact h.rain
theorem bq_row144 {σ : bo_M} {d : Nat} {v : Int32} : bo_up σ 144 d v 144 = fun j => if j = d then v else σ 144 j := funext fun j => bq_up144 j
/-- come and go -/
theorem st_inout (h : in_all σ) {d : Nat} {v : Int32} {D G S X g : Nat} (hH : in_house σ D G S X) (hN : in_now σ D g) (hR : in_rest σ D) (hd : d < D) (hv : bq_r v 0 1)
    {x : bo_M → Int32} (hx : ∀ s : bo_M, s 50 5 = nI (sp_set (fun k => decide (σ 144 k = 1)) D) → x s = nI (sp_set (fun k => decide ((fun j => if j = d then v else σ 144 j) k = 1)) D)) :
    ∃ r σ1 σ2 σ3 σ4, mX6_note σ 50 = some σ1 ∧ σ2 = bo_up σ1 50 5 (x σ1) ∧ σ2 50 5 = r ∧ sp_ag σ2 σ ∧ σ2 144 d = σ 144 d ∧ mX11_remember σ2 = some σ3 ∧ bo_st 107 σ3 144 (0 + nI d) v = some σ4 ∧ mX11_whoIsIn σ4 = some r ∧ in_all σ4 := by
  have h7 := hH.1.nD.2
  obtain ⟨σ1, w1, w2, w3⟩ := wr_frame hH hN hR
  obtain ⟨σ2, hσ2⟩ : ∃ σ2, σ2 = bo_up σ1 50 5 (x σ1) := ⟨_, rfl⟩
  obtain ⟨σ3, w4, w5, w6⟩ := w3 σ2 (fun a b z1 z2 => by rw [hσ2, bq_up_o (by omega)])
  have e55 : σ1 50 5 = nI (sp_set (fun k => decide (σ 144 k = 1)) D) := by rw [w2 50 5 (by omega) (by omega) (by omega)]; exact hN.2.ins
  have e2 : σ2 50 5 = nI (sp_set (fun k => decide ((fun j => if j = d then v else σ 144 j) k = 1)) D) := by rw [hσ2, bq_up_s]; exact hx σ1 e55
  have r144 : ∀ b, σ2 144 b = σ 144 b := fun b => by rw [hσ2, bq_up_o (by decide), w2 144 b (by omega) (by omega) (by omega)]
  have r3 : σ3 144 = σ 144 := funext fun b => by rw [w5 144 b (by omega) (by omega), r144]
  have V4 : bo_up σ3 144 d v 144 = fun j => if j = d then v else σ 144 j := by rw [bq_row144, r3]
  have ag2 : sp_ag σ2 σ := sp_ag.fr (fun a b z => by rw [hσ2, bq_up_o (by omega), w2 a b (by omega) (by omega) (by omega)])
  have ag4 : sp_ag (bo_up σ3 144 d v) σ := sp_ag.fr (fun a b z => by rw [bq_up_o (by omega), w5 a b (by omega) (by omega), hσ2, bq_up_o (by omega), w2 a b (by omega) (by omega) (by omega)])
  refine ⟨_, σ1, σ2, σ3, bo_up σ3 144 d v, w1, hσ2, e2, ag2, r144 d, w4, ?_, ?_, ?_⟩
  · rw [show (0 : Int32) + nI d = nI d from Int32.zero_add _, bq_st (by omega) (by decide)]
  · rw [rf_whoIsIn ag4 hH.1, V4]
  · refine w6 _ g (fun a b z1 z2 => by rw [bq_up_o z1]) ⟨?_, ?_⟩ (hR.2.1.fr (fun a b z => ?_))
    · rw [V4]; exact sp_wf_in hN.1 (by omega) hv
    · rw [V4]
      refine sp_rep_in hN.2 (fun a b z1 z2 z3 => ?_) (by omega) ?_
      · rw [bq_up_o (by omega), w5 a b (by omega) (by omega), hσ2, bq_up, if_neg z3, w2 a b (by omega) (by omega) (by omega)]
      · rw [bq_up_o (by omega), w5 50 5 (by omega) (by omega), e2]
    · rw [bq_up_o (by omega), w5 a b (by omega) (by omega), hσ2, bq_up_o (by omega), w2 a b (by omega) (by omega) (by omega)]
theorem st_come (h : in_all σ) (p : Int32) : ∃ r σ1 σ2, mX10_come σ p = some (r, σ1) ∧ mX11_come σ1 p = some (r, σ2) ∧ in_all σ2 := by
  obtain ⟨D, G, S, X, g, hH, hN, hR⟩ := id h
  have h7 := hH.1.nD.2
  unfold mX10_come
  rw [cl_isDrinker hH, Option.bind_some]
  by_cases c : 0 ≤ p ∧ p < nI D
  · rw [if_pos c, if_neg bq_10]
    obtain ⟨d, rfl, hd⟩ := bq_pick (by omega) c
    unfold mX10_bit
    rw [Option.bind_some, cl_bitin hN h7 hd]
    by_cases c1 : σ 144 d = 1
    · rw [if_pos c1]
      refine ⟨_, σ, σ, rfl, ?_, h⟩
      unfold mX11_come
      rw [rf_isDrinker hH.1 sp_ag.rf, if_pos c, Option.bind_some, if_neg bq_10, rf_ld0 (by omega), Option.bind_some, if_pos c1]
    · rw [if_neg c1]
      obtain ⟨r, σ1, σ2, σ3, σ4, z1, z2, z3, z4, z5, z6, z7, z8, z9⟩ := st_inout (v := 1) (x := fun s => s 50 5 ||| nI (2 ^ d)) h hH hN hR hd ⟨1, rfl, by omega, by omega⟩ (fun s hs => by rw [hs]; exact sp_in_1 hd)
      refine ⟨r, σ2, σ4, ?_, ?_, z9⟩
      · rw [z1, Option.bind_some, bq_one_shl (by omega), Option.bind_some, ← z2, z3]
      · unfold mX11_come
        rw [rf_isDrinker hH.1 z4, if_pos c, Option.bind_some, if_neg bq_10, rf_ld0 (by omega), Option.bind_some, z5, if_neg c1, z6, Option.bind_some, z7, Option.bind_some, z8, Option.bind_some]
  · rw [if_neg c, if_pos bq_00]
    refine ⟨_, σ, σ, rfl, ?_, h⟩
    unfold mX11_come
    rw [rf_isDrinker hH.1 sp_ag.rf, if_neg c, Option.bind_some, if_pos bq_00]
theorem st_go (h : in_all σ) (p : Int32) : ∃ r σ1 σ2, mX10_go σ p = some (r, σ1) ∧ mX11_go σ1 p = some (r, σ2) ∧ in_all σ2 := by
  obtain ⟨D, G, S, X, g, hH, hN, hR⟩ := id h
  have h7 := hH.1.nD.2
  unfold mX10_go
  rw [cl_isDrinker hH, Option.bind_some]
  by_cases c : 0 ≤ p ∧ p < nI D
  · rw [if_pos c, if_neg bq_10]
    obtain ⟨d, rfl, hd⟩ := bq_pick (by omega) c
    unfold mX10_bit
    rw [Option.bind_some, cl_bitin hN h7 hd]
    by_cases c1 : σ 144 d = 0
    · rw [if_pos c1]
      refine ⟨_, σ, σ, rfl, ?_, h⟩
      unfold mX11_go
      rw [rf_isDrinker hH.1 sp_ag.rf, if_pos c, Option.bind_some, if_neg bq_10, rf_ld0 (by omega), Option.bind_some, if_pos c1]
    · rw [if_neg c1]
      obtain ⟨r, σ1, σ2, σ3, σ4, z1, z2, z3, z4, z5, z6, z7, z8, z9⟩ := st_inout (v := 0) (x := fun s => s 50 5 &&& (nI (2 ^ d) ^^^ (-1))) h hH hN hR hd ⟨0, rfl, by omega, by omega⟩ (fun s hs => by rw [hs]; exact sp_in_0 h7 hd)
      refine ⟨r, σ2, σ4, ?_, ?_, z9⟩
      · rw [z1, Option.bind_some, bq_one_shl (by omega), Option.bind_some, ← z2, z3]
      · unfold mX11_go
        rw [rf_isDrinker hH.1 z4, if_pos c, Option.bind_some, if_neg bq_10, rf_ld0 (by omega), Option.bind_some, z5, if_neg c1, z6, Option.bind_some, z7, Option.bind_some, z8, Option.bind_some]
  · rw [if_neg c, if_pos bq_00]
    refine ⟨_, σ, σ, rfl, ?_, h⟩
    unfold mX11_go
    rw [rf_isDrinker hH.1 sp_ag.rf, if_neg c, Option.bind_some, if_pos bq_00]
end WRITERS
