/-! the reference: its questions, a QUARTER goes by -/
theorem lg_lt0 (x y : Int64) : lg_cmp x y < 0 ↔ x < y := lg_cmp_lt x y
theorem lg_gt0 (x y : Int64) : 0 < lg_cmp x y ↔ y < x := lg_cmp_gt x y
theorem rf_in {σ : bo_M} {a b c : Int32} {B C : Int64} (hB : B = b.toInt64) (hC : C = c.toInt64) : mX11_in σ (Int32.toInt64 a) B C = some (if b ≤ a ∧ a ≤ c then 1 else 0) := by
  subst hB; subst hC
  unfold mX11_in
  by_cases h1 : a < b
  · rw [if_pos ((lg_lt0 _ _).mpr ((fa_wide_lt _ _).mpr h1)), if_neg]
    rintro ⟨h2, -⟩
    have x := (fa_lt _ _).mp h1
    have y := (fa_le _ _).mp h2
    omega
  · rw [if_neg (fun z => h1 ((fa_wide_lt _ _).mp ((lg_lt0 _ _).mp z)))]
    by_cases h2 : c < a
    · rw [if_pos ((lg_gt0 _ _).mpr ((fa_wide_lt _ _).mpr h2)), if_neg]
      rintro ⟨-, h3⟩
      have x := (fa_lt _ _).mp h2
      have y := (fa_le _ _).mp h3
      omega
    · rw [if_neg (fun z => h2 ((fa_wide_lt _ _).mp ((lg_gt0 _ _).mp z))), if_pos ⟨fa_of_nlt h1, fa_of_nlt h2⟩]
theorem bq_b10 {b : Bool} : ((if b then (1 : Int32) else 0) = 0) = (b = false) := by cases b <;> simp
section RFP
variable {σ N : bo_M} {D G S X g B : Nat}
theorem rf_first : mX11_isFirstOfDay σ = some (if sp_first (σ 144) then 1 else 0) := by
  unfold mX11_isFirstOfDay sp_first
  rw [show bo_ld 107 σ 144 21 = some (σ 144 21) from bq_ld (i := 21) (by decide) (by decide), Option.bind_some]
  by_cases c : bo_irm (σ 144 21) 96 = 0
  · rw [if_pos c]; simp [c]
  · rw [if_neg c]; simp [c]
theorem rf_ld14 {d : Nat} (hd : d < 7) : bo_ld 107 σ 144 (14 + nI d) = some (σ 144 (14 + d)) := by
  rw [show (14 : Int32) + nI d = nI (14 + d) from nI_add 14 d]
  exact bq_ld (by omega) (by decide)
theorem rf_ld7 {d : Nat} (hd : d < 7) : bo_ld 107 σ 144 (7 + nI d) = some (σ 144 (7 + d)) := by
  rw [show (7 : Int32) + nI d = nI (7 + d) from nI_add 7 d]
  exact bq_ld (by omega) (by decide)
theorem rf_ld0 {d : Nat} (hd : d < 7) : bo_ld 107 σ 144 (0 + nI d) = some (σ 144 d) := by
  rw [show (0 : Int32) + nI d = nI (0 + d) from nI_add 0 d, Nat.zero_add]
  exact bq_ld (by omega) (by decide)
theorem rf_ldk (i : Nat) (hi : i < 107) : bo_ld 107 σ 144 (nI i) = some (σ 144 i) := bq_ld hi (by decide)
theorem rf_turn (hA : sp_ag σ N) (hE : sp_env N D G S X) {d : Nat} (hd : d < D) (q : Int32) : mX11_isTurn σ (nI d) q = some (if sp_turn N (σ 144) q d then 1 else 0) := by
  have h7 := hE.nD.2
  obtain ⟨T, hT1, hT2, hT3⟩ := (hE.dr d hd).1
  unfold mX11_isTurn sp_turn
  rw [rf_ld14 (by omega), Option.bind_some, bq_ld (by omega) (by decide), Option.bind_some, hA.2 136 (by decide) (by decide), bq_iremo2 hT1 (by omega) (by omega), Option.bind_some]
  by_cases c : bo_irm (q + σ 144 (14 + d)) (N 136 d) = 0
  · rw [if_pos c]; simp [c]
  · rw [if_neg c]; simp [c]
theorem rf_ring (hA : sp_ag σ N) (hE : sp_env N D G S X) {d : Nat} (hd : d < D) : mX11_wouldRing σ (nI d) = some (if sp_ring N (σ 144) d then 1 else 0) := by
  have h7 := hE.nD.2
  unfold mX11_wouldRing
  rw [rf_first, Option.bind_some]
  have h1 : (if (if sp_first (σ 144) then (1 : Int32) else 0) = 0 then (bo_ld 107 σ 144 (7 + nI d)).bind fun v3 => some v3 else some 0) = some (if sp_first (σ 144) then 0 else σ 144 (7 + d)) := by
    rw [rf_ld7 (by omega), Option.bind_some]
    cases sp_first (σ 144) <;> simp
  rw [h1, Option.bind_some, rf_ld0 (by omega), Option.bind_some]
  unfold sp_ring sp_fullb
  by_cases c1 : σ 144 d = 1
  · rw [if_pos c1, bq_ld (by omega) (by decide), Option.bind_some, hA.2 137 (by decide) (by decide), show bo_ld 107 σ 144 21 = some (σ 144 21) from rf_ldk 21 (by decide), Option.bind_some, rf_turn hA hE hd, Option.bind_some]
    obtain ⟨P, hP1, hP2, hP3⟩ := (hE.dr d hd).2.1
    cases hf : sp_first (σ 144) with
    | true =>
      rw [hP1, if_neg (by rw [if_pos rfl]; exact nI_nle (by omega) (by omega))]
      cases sp_turn N (σ 144) (σ 144 21) d <;> simp [c1]
    | false =>
      by_cases c2 : σ 144 (7 + d) < N 137 d
      · rw [if_neg (by
          intro z
          have a := (fa_lt _ _).mp c2
          have b := (fa_le _ _).mp z
          simp only [Bool.false_eq_true, if_false] at b
          omega)]
        cases sp_turn N (σ 144) (σ 144 21) d <;> simp [c1, c2]
      · rw [if_pos (show N 137 d ≤ (if false = true then 0 else σ 144 (7 + d)) from fa_of_nlt c2)]
        simp [c2]
  · rw [if_neg c1]; simp [c1]
theorem sp_ring_cong {V U : Nat → Int32} {d : Nat} (h0 : U d = V d) (h7 : U (7 + d) = V (7 + d)) (h14 : U (14 + d) = V (14 + d)) (h21 : U 21 = V 21) : sp_ring N U d = sp_ring N V d := by
  unfold sp_ring sp_fullb sp_turn sp_first
  rw [h0, h7, h14, h21]
theorem rf_wet (hA : sp_ag σ N) (hr : bq_r (σ 144 25) 0 2) : mX11_isWet σ = some (if sp_wet N (σ 144) then 1 else 0) := by
  obtain ⟨w, hw, -, hw2⟩ := hr
  unfold mX11_isWet mX11_has sp_wet
  rw [show bo_ld 107 σ 144 25 = some (σ 144 25) from rf_ldk 25 (by decide), Option.bind_some, show bo_ld 107 σ 144 21 = some (σ 144 21) from rf_ldk 21 (by decide), Option.bind_some, Option.bind_some, hA.1 3 (by decide), bq_bs]
  by_cases c : σ 144 25 = 0
  · rw [if_pos c, c, if_pos (by decide)]
    by_cases c2 : ((N 135 3 >>> (bo_irm (σ 144 21 / 96) 7 &&& 31)) &&& 1) = 1
    · rw [if_pos c2]; simp [c2]
    · rw [if_neg c2]; simp [c2]
  · rw [if_neg c, if_neg]
    · by_cases c2 : σ 144 25 = 1
      · rw [if_pos c2]; simp [c2]
      · rw [if_neg c2]; simp [c2]
    · rw [hw] at c ⊢
      refine nI_nle ?_ (by omega)
      rcases Nat.eq_zero_or_pos w with h | h
      · subst h; exact absurd nI_0 c
      · exact h
theorem rf_bl (hA : sp_ag σ N) (hE : sp_env N D G S X) {q : Nat} (hq : q < 96) : mX11_isBlanketed σ (nI q) = some (if sp_bl N X q then 1 else 0) := by
  have h4 := hE.nX.2
  unfold mX11_isBlanketed
  obtain ⟨b, hb, hb2⟩ := bq_inv (fun m a k => mX11_isBlanketed_L4 σ (nI q) m a (nI k)) X (fun k a => a = if sp_bl N k q then 1 else 0) (fun a => a = if sp_bl N X q then 1 else 0) (by
    intro m k a hk ha
    have hX : σ 135 8 = nI X := by rw [hA.1 8 (by decide)]; exact hE.nX.1
    by_cases h : k = X
    · subst h
      exact Or.inl ⟨_, by simp only [mX11_isBlanketed_L4]; rw [hX, if_pos (Int32.le_refl _)], ha⟩
    · have hlt : k < X := by omega
      refine Or.inr ⟨hlt, _, rfl, ?_⟩
      obtain ⟨f, l, hf, hl, l1, l2, l3⟩ := hE.ti k hlt
      simp only [mX11_isBlanketed_L4]
      rw [hX, if_neg (nI_ge hlt (by omega)), bq_ld (by omega) (by decide), Option.bind_some, Option.bind_some, bq_ld (by omega) (by decide), Option.bind_some, hA.2 139 (by decide) (by decide), hA.2 140 (by decide) (by decide), hf, hl, rf_in rfl rfl, Option.bind_some, nI_1]
      have e2 : (nI f + nI l) - 1 = nI (f + l - 1) := by
        rw [nI_add, show f + l = (f + l - 1) + 1 by omega, nI_pred]
        rfl
      rw [e2, ha]
      have e3 : sp_bl N (k + 1) q = (sp_bl N k q || decide (f ≤ q ∧ q < f + l)) := by
        unfold sp_bl
        rw [sp_any, hf, hl, nI_clamp (by omega), nI_clamp (by omega)]
      rw [e3]
      have e4 : (nI f ≤ nI q ∧ nI q ≤ nI (f + l - 1)) ↔ (f ≤ q ∧ q < f + l) := by
        rw [nI_leI (by omega) (by omega), nI_leI (by omega) (by omega)]
        omega
      by_cases c : (f ≤ q ∧ q < f + l)
      · rw [if_pos (e4.mpr c)]
        cases sp_bl N k q <;> simp [c]
      · rw [if_neg (fun z => c (e4.mp z))]
        cases sp_bl N k q <;> simp [c]) bo_fuel 0 0 (Nat.zero_le _) (bq_fuel (by omega)) rfl
  rw [show mX11_isBlanketed_L4 σ (nI q) bo_fuel 0 0 = some b from by rw [← nI_0]; rw [← nI_0] at hb; exact hb, Option.bind_some, hb2]
  unfold bo_zr
  cases sp_bl N X q <;> simp
theorem rf_muf (hA : sp_ag σ N) (hE : sp_env N D G S X) {a t : Nat} (ha : a < 2 ^ 30) (ht : t < 2 ^ 30) : mX11_muffle σ (nI a) (nI t) = some (nI (sp_muf N a t)) := by
  obtain ⟨ec, he, -, he2⟩ := hE.echo
  unfold mX11_muffle sp_muf
  rw [hA.1 1 (by decide), he, nI_clamp (by omega)]
  by_cases h : a ≤ t
  · rw [if_pos (nI_le h (by omega)), if_pos h, Option.bind_some, if_pos (Int32.le_refl _), nI_0]
  · rw [if_neg (nI_ge (by omega) (by omega)), if_neg h, Option.bind_some, pk_sub (by omega), if_neg (nI_nle (by omega) (by omega)), nI_add]
theorem rf_heard (hA : sp_ag σ N) (hE : sp_env N D G S X) (hr : bq_r (σ 144 25) 0 2) (hg : σ 144 21 = nI g) (hg2 : g < 2 ^ 31) {r : Nat} (hr2 : r < 2 ^ 30) : mX11_heardOf σ (nI r) = some (nI (sp_heard N X (σ 144) g r)) := by
  obtain ⟨tk, ht, -, ht2⟩ := hE.takes
  unfold mX11_heardOf
  rw [rf_wet hA hr, Option.bind_some]
  have h1 : (if (if sp_wet N (σ 144) then (1 : Int32) else 0) = 0 then some (nI r) else some (nI r / 2)) = some (nI (if sp_wet N (σ 144) then r / 2 else r)) := by
    cases sp_wet N (σ 144)
    · rfl
    · rw [if_neg (by decide), show nI r / 2 = nI (r / 2) from pk_div (by omega) (by decide) (by decide)]
      rfl
  rw [h1, Option.bind_some, show bo_ld 107 σ 144 23 = some (σ 144 23) from rf_ldk 23 (by decide), Option.bind_some, show bo_ld 107 σ 144 21 = some (σ 144 21) from rf_ldk 21 (by decide), Option.bind_some, hg, show bo_irm (nI g) 96 = nI (g % 96) from bq_irm hg2 (by decide) (by decide), rf_bl hA hE (Nat.mod_lt _ (by decide)), Option.bind_some]
  have h2 : (if 0 < σ 144 23 then some (1 : Int32) else if (if sp_bl N X (g % 96) then (1 : Int32) else 0) = 0 then some 0 else some 1) = some (if sp_cov N X (σ 144) g then 1 else 0) := by
    unfold sp_cov
    by_cases c : 0 < σ 144 23
    · rw [if_pos c]; simp [c]
    · rw [if_neg c]
      cases sp_bl N X (g % 96) <;> simp [c]
  rw [h2, Option.bind_some]
  have h3 : (if (if sp_cov N X (σ 144) g then (1 : Int32) else 0) = 0 then some (0 : Int32) else some (σ 135 2)) = some (nI (if sp_cov N X (σ 144) g then (N 135 2).toNatClampNeg else 0)) := by
    rw [hA.1 2 (by decide), ht, nI_clamp (by omega)]
    cases sp_cov N X (σ 144) g
    · rw [if_pos (by decide), ← nI_0]; rfl
    · rw [if_neg (by decide)]; rfl
  rw [h3, Option.bind_some, rf_muf hA hE (by split <;> omega) (by rw [ht, nI_clamp (by omega)]; split <;> omega)]
  rfl
end RFP
