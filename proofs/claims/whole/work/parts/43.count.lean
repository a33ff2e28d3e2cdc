/-! mistaken, widows, share, round -/
section CNT
variable {σ s N : bo_M} {D G S X g : Nat} {V : Nat → Int32}
theorem sp_cnt_head (b : Nat → Bool) : ∀ n, sp_cnt b (n + 1) = (if b 0 then 1 else 0) + sp_cnt (fun k => b (k + 1)) n
  | 0 => by simp [sp_cnt]
  | n + 1 => by
    show sp_cnt b (n + 1) + (if b (n + 1) then 1 else 0) = _ + (sp_cnt (fun k => b (k + 1)) n + (if b (n + 1) then 1 else 0))
    rw [sp_cnt_head b n]
    omega
theorem sp_cnt_rev : ∀ (n : Nat) (b : Nat → Bool), sp_cnt (fun i => b (n - 1 - i)) n = sp_cnt b n
  | 0, _ => rfl
  | n + 1, b => by
    rw [sp_cnt_head b n, ← sp_cnt_rev n (fun k => b (k + 1))]
    show sp_cnt (fun i => b (n + 1 - 1 - i)) n + (if b (n + 1 - 1 - n) then 1 else 0) = _
    rw [show n + 1 - 1 - n = 0 by omega, Nat.add_comm]
    congr 1
    exact sp_cnt_cong (fun k hk => by rw [show n + 1 - 1 - k = n - 1 - k + 1 by omega])
theorem sp_set_zero {c : Nat → Bool} {n : Nat} : sp_set c n = 0 ↔ sp_any c n = false := by
  constructor
  · intro h
    cases ha : sp_any c n with
    | false => rfl
    | true =>
      obtain ⟨k, hk, hc⟩ := (sp_any_iff c n).mp ha
      have := sp_set_bit c n k
      rw [h, Nat.zero_testBit] at this
      simp [hk, hc] at this
  · intro h
    apply Nat.eq_of_testBit_eq
    intro k
    rw [sp_set_bit, Nat.zero_testBit]
    by_cases hk : k < n
    · cases hc : c k with
      | false => simp
      | true =>
        have := (sp_any_iff c n).mpr ⟨k, hk, hc⟩
        rw [h] at this
        cases this
    · simp [hk]
theorem bq_eq0 {n : Nat} (h : n < 2 ^ 31) : nI n = 0 ↔ n = 0 := by
  rw [← nI_0]
  exact nI_eq h (by decide)
def sp_mist (N : bo_M) (S : Nat) (V : Nat → Int32) (k : Nat) : Bool := sp_any (fun s => decide (N 143 s = V (67 + k))) S && !decide (V (27 + k) = V (67 + k))
theorem st_mistaken (h : in_all σ) : ∃ r, mX10_mistaken σ = some r ∧ mX11_mistaken σ = some r := by
  obtain ⟨D, G, S, X, g, hH, hN, hR⟩ := h
  have hg := hN.1.ng.1
  have hgB := hN.1.ng.2
  have h5 := hH.1.nS.2
  obtain ⟨L, hL⟩ : ∃ L, L = min g 40 := ⟨_, rfl⟩
  have hlog := cl_logs hN.2 hg (by omega)
  rw [← hL] at hlog
  have q1 : mX10_mistaken σ = some (nI (sp_cnt (fun i => sp_mist σ S (σ 144) (L - 1 - i)) L)) := by
    unfold mX10_mistaken
    obtain ⟨b, hb, hq⟩ := bq_inv (fun n a k => mX10_mistaken_L4 σ n a (nI k)) L (fun k a => a = nI (sp_cnt (fun i => sp_mist σ S (σ 144) (L - 1 - i)) k)) (fun r => r = nI (sp_cnt (fun i => sp_mist σ S (σ 144) (L - 1 - i)) L)) (by
      intro n k a hk ha
      subst ha
      by_cases hkL : k = L
      · subst hkL
        exact Or.inl ⟨_, by simp only [mX10_mistaken_L4]; rw [hlog, Option.bind_some, if_pos (Int32.le_refl _)], rfl⟩
      · have hlt : k < L := by omega
        refine Or.inr ⟨hlt, _, rfl, ?_⟩
        obtain ⟨e1, e2⟩ := cl_ago hN.2 hg (by omega) (i := k) (by omega)
        rw [← hL] at e1 e2
        simp only [mX10_mistaken_L4]
        rw [hlog, Option.bind_some, if_neg (nI_ge hlt (by omega)), e2, Option.bind_some, cl_signalsOf hH.2.1 hH.1, Option.bind_some, e1, Option.bind_some, nI_1]
        have hlt2 : sp_set (fun k_1 => decide (σ 143 k_1 = σ 144 (67 + (L - 1 - k)))) S < 2 ^ 31 := Nat.lt_trans (sp_set_127 (by omega)) (by decide)
        cases ha : sp_any (fun s => decide (σ 143 s = σ 144 (67 + (L - 1 - k)))) S with
        | false =>
          rw [if_pos ((bq_eq0 hlt2).mpr (sp_set_zero.mpr ha)), Option.bind_some, sp_cnt_f (by unfold sp_mist; rw [ha]; rfl), nI_1]
        | true =>
          rw [if_neg (fun z => by have := sp_set_zero.mp ((bq_eq0 hlt2).mp z); rw [ha] at this; cases this)]
          by_cases c : σ 144 (27 + (L - 1 - k)) = σ 144 (67 + (L - 1 - k))
          · rw [if_pos c, Option.bind_some, sp_cnt_f (by unfold sp_mist; rw [ha]; simp [c]), nI_1]
          · rw [if_neg c, Option.bind_some, nI_1, sp_cnt_t (by unfold sp_mist; rw [ha]; simp [c])]) bo_fuel 0 (nI 0) (Nat.zero_le _) (bq_fuel (by omega)) rfl
    rw [← nI_0, show mX10_mistaken_L4 σ bo_fuel (nI 0) (nI 0) = some b from hb, hq]
    rfl
  have hS : σ 135 14 = nI S := hH.1.nS.1
  have q3 : ∀ (w : Int32) (k : Nat), k < L → mX11_mistaken_L20 σ w (nI k) bo_fuel 0 0 = some (if sp_any (fun s => decide (σ 143 s = σ 144 (67 + k))) S then 1 else 0) := by
    intro w k hk
    obtain ⟨b, hb, hq⟩ := bq_inv (fun n a j => mX11_mistaken_L20 σ w (nI k) n a (nI j)) S (fun j a => a = if sp_any (fun s => decide (σ 143 s = σ 144 (67 + k))) j then 1 else 0) (fun r => r = if sp_any (fun s => decide (σ 143 s = σ 144 (67 + k))) S then 1 else 0) (by
      intro n j a hj ha
      subst ha
      by_cases hjS : j = S
      · subst hjS
        exact Or.inl ⟨_, by simp only [mX11_mistaken_L20, hS]; rw [if_pos (Int32.le_refl _)], rfl⟩
      · have hlt : j < S := by omega
        refine Or.inr ⟨hlt, _, rfl, ?_⟩
        simp only [mX11_mistaken_L20, hS]
        rw [if_neg (nI_ge hlt (by omega)), show (67 : Int32) + nI k = nI (67 + k) from nI_add 67 k, rf_ldk _ (by omega), Option.bind_some, bq_ld (by omega) (by decide), Option.bind_some, nI_1]
        show _ = mX11_mistaken_L20 σ w (nI k) n (if (sp_any (fun s => decide (σ 143 s = σ 144 (67 + k))) j || decide (σ 143 j = σ 144 (67 + k))) then 1 else 0) _
        cases ha : sp_any (fun s => decide (σ 143 s = σ 144 (67 + k))) j with
        | true => simp
        | false =>
          by_cases c : σ 144 (67 + k) = σ 143 j
          · simp [c]
          · simp [c, Ne.symm c]) bo_fuel 0 0 (Nat.zero_le _) (bq_fuel (by omega)) rfl
    rw [show mX11_mistaken_L20 σ w (nI k) bo_fuel 0 0 = some b from by rw [← nI_0]; rw [← nI_0] at hb; exact hb, hq]
  have q2 : mX11_mistaken σ = some (nI (sp_cnt (sp_mist σ S (σ 144)) L)) := by
    unfold mX11_mistaken
    obtain ⟨b, hb, hq⟩ := bq_inv (fun n a k => mX11_mistaken_L4 σ n a (nI k)) L (fun k a => a = nI (sp_cnt (sp_mist σ S (σ 144)) k)) (fun r => r = nI (sp_cnt (sp_mist σ S (σ 144)) L)) (by
      intro n k a hk ha
      subst ha
      have h26 : σ 144 26 = nI L := by rw [hN.1.L, hL]
      by_cases hkL : k = L
      · subst hkL
        exact Or.inl ⟨_, by simp only [mX11_mistaken_L4]; rw [show bo_ld 107 σ 144 26 = some (σ 144 26) from rf_ldk 26 (by decide), Option.bind_some, h26, if_pos (Int32.le_refl _)], rfl⟩
      · have hlt : k < L := by omega
        refine Or.inr ⟨hlt, _, rfl, ?_⟩
        simp only [mX11_mistaken_L4]
        rw [show bo_ld 107 σ 144 26 = some (σ 144 26) from rf_ldk 26 (by decide), Option.bind_some, h26, if_neg (nI_ge hlt (by omega)), q3 _ k hlt, Option.bind_some, show (67 : Int32) + nI k = nI (67 + k) from nI_add 67 k, show (27 : Int32) + nI k = nI (27 + k) from nI_add 27 k, rf_ldk _ (by omega), Option.bind_some, rf_ldk _ (by omega), Option.bind_some, nI_1]
        cases ha : sp_any (fun s => decide (σ 143 s = σ 144 (67 + k))) S with
        | false =>
          rw [sp_cnt_f (by unfold sp_mist; rw [ha]; rfl)]
          simp
        | true =>
          by_cases c : σ 144 (27 + k) = σ 144 (67 + k)
          · rw [sp_cnt_f (by unfold sp_mist; rw [ha]; simp [c])]
            simp [c]
          · rw [sp_cnt_t (by unfold sp_mist; rw [ha]; simp [c])]
            simp only [c]
            simp [nI_1]) bo_fuel 0 (nI 0) (Nat.zero_le _) (bq_fuel (by omega)) rfl
    rw [← nI_0, show mX11_mistaken_L4 σ bo_fuel (nI 0) (nI 0) = some b from hb, hq]
    rfl
  refine ⟨_, q1, ?_⟩
  rw [q2, sp_cnt_rev]
def sp_wid (h : Nat → Nat) : Nat → Nat
  | 0 => 0
  | k + 1 => sp_wid h k + (if 0 < k ∧ h k = h (k - 1) then 0 else h k)
theorem st_widows (h : in_all σ) (p : Int32) : ∃ r, mX10_widows σ p = some r ∧ mX11_widows σ p = some r := by
  obtain ⟨D, G, S, X, g, hH, hN, hR⟩ := h
  have hg := hN.1.ng.1
  have hgB := hN.1.ng.2
  unfold mX10_widows mX11_widows
  rw [rf_in (b := 0) (c := 99) (by decide +kernel) (by decide +kernel), Option.bind_some]
  by_cases c : 0 ≤ p ∧ p ≤ 99
  · rw [if_pos c, if_neg bq_10, if_neg (bq_nlt.mpr c.1), if_pos c.2]
    obtain ⟨pc, rfl, -, hpc⟩ := bq_rng (a := 0) (b := 99) c.1 c.2 (by decide) (by decide)
    obtain ⟨L, hL⟩ : ∃ L, L = min g 40 := ⟨_, rfl⟩
    have hlog := cl_logs hN.2 hg (by omega)
    rw [← hL] at hlog
    obtain ⟨hh, hhh⟩ : ∃ hh : Nat → Nat, hh = fun k => (σ 144 (27 + k)).toNatClampNeg := ⟨_, rfl⟩
    have h8 : ∀ k, k < L → σ 144 (27 + k) = nI (hh k) ∧ hh k ≤ 8 := by
      intro k hk
      obtain ⟨v, hv, -, hv2⟩ := (hN.1.lg k (by omega)).1
      have : hh k = v := by rw [hhh]; show (σ 144 (27 + k)).toNatClampNeg = v; rw [hv, nI_clamp (by omega)]
      rw [this]
      exact ⟨hv, hv2⟩
    have q1 : mX10_widows_L28 σ (nI pc) bo_fuel 0 (-1) (nI L - 1) = some (nI (sp_wid hh L)) := by
      obtain ⟨b, hb, hq⟩ := bq_inv (fun n (a : Int32 × Int32) k => mX10_widows_L28 σ (nI pc) n a.1 a.2 (if k < L then nI (L - 1 - k) else -1)) L (fun k a => a.1 = nI (sp_wid hh k) ∧ a.2 = if k = 0 then -1 else nI (hh (k - 1))) (fun r => r = nI (sp_wid hh L)) (by
        intro n k a hk ⟨ha1, ha2⟩
        obtain ⟨x, y⟩ := a
        dsimp only at ha1 ha2
        subst ha1; subst ha2
        by_cases hkL : k = L
        · subst hkL
          exact Or.inl ⟨_, by simp only [mX10_widows_L28]; rw [if_neg (Nat.lt_irrefl _), if_pos (by decide)], rfl⟩
        · have hlt : k < L := by omega
          obtain ⟨e1, -⟩ := cl_ago hN.2 hg (by omega) (i := L - 1 - k) (by omega)
          rw [← hL, show L - 1 - (L - 1 - k) = k by omega, (h8 k hlt).1] at e1
          refine Or.inr ⟨hlt, (nI (sp_wid hh (k + 1)), nI (hh k)), ⟨rfl, by rw [if_neg (by omega), show k + 1 - 1 = k by omega]⟩, ?_⟩
          simp only [mX10_widows_L28]
          rw [if_pos hlt, if_neg (nI_pos (by omega)), e1, Option.bind_some]
          have ei : nI (L - 1 - k) + (-1) = if k + 1 < L then nI (L - 1 - (k + 1)) else -1 := by
            by_cases hk1 : k + 1 < L
            · rw [if_pos hk1, show L - 1 - k = (L - 1 - (k + 1)) + 1 by omega, pk_m1]
            · rw [if_neg hk1, show L - 1 - k = 0 by omega]; decide
          rw [ei]
          have ew : (if nI (hh k) = (if k = 0 then -1 else nI (hh (k - 1))) then some (nI (sp_wid hh k)) else some (nI (sp_wid hh k) + nI (hh k))) = some (nI (sp_wid hh (k + 1))) := by
            have h8k := (h8 k hlt).2
            show _ = some (nI (sp_wid hh k + (if 0 < k ∧ hh k = hh (k - 1) then 0 else hh k)))
            by_cases hk0 : k = 0
            · rw [if_pos hk0, if_neg (show ¬ nI (hh k) = -1 from fun z => by
                have := nI_pos (n := hh k) (by omega)
                rw [z] at this
                exact this (by decide)), if_neg (by omega), nI_add]
            · rw [if_neg hk0]
              have h8p := (h8 (k - 1) (by omega)).2
              by_cases he : hh k = hh (k - 1)
              · rw [if_pos (by rw [he]), if_pos ⟨by omega, he⟩, Nat.add_zero]
              · rw [if_neg (fun z => he ((nI_eq (by omega) (by omega)).mp z)), if_neg (fun z => he z.2), nI_add]
          rw [ew, Option.bind_some]) bo_fuel 0 (nI 0, -1) (Nat.zero_le _) (bq_fuel (by omega)) ⟨rfl, rfl⟩
      have e0 : nI L - 1 = if 0 < L then nI (L - 1 - 0) else -1 := by
        by_cases h0 : 0 < L
        · rw [if_pos h0]; exact pk_sub (b := 1) (by omega)
        · rw [if_neg h0, show L = 0 by omega]; decide
      rw [e0, ← nI_0]
      rw [show mX10_widows_L28 σ (nI pc) bo_fuel (nI 0) (-1) (if 0 < L then nI (L - 1 - 0) else -1) = some b from hb, hq]
    have q2 : mX11_widows_L19 σ (nI pc) bo_fuel 0 0 = some (nI (pc * sp_wid hh L)) := by
      obtain ⟨b, hb, hq⟩ := bq_inv (fun n a k => mX11_widows_L19 σ (nI pc) n a (nI k)) L (fun k a => a = nI (pc * sp_wid hh k)) (fun r => r = nI (pc * sp_wid hh L)) (by
        intro n k a hk ha
        subst ha
        have h26 : σ 144 26 = nI L := by rw [hN.1.L, hL]
        by_cases hkL : k = L
        · subst hkL
          exact Or.inl ⟨_, by simp only [mX11_widows_L19]; rw [show bo_ld 107 σ 144 26 = some (σ 144 26) from rf_ldk 26 (by decide), Option.bind_some, h26, if_pos (Int32.le_refl _)], rfl⟩
        · have hlt : k < L := by omega
          refine Or.inr ⟨hlt, _, rfl, ?_⟩
          have h8k := (h8 k hlt).2
          have ew : (if (if 0 < k ∧ hh k = hh (k - 1) then (1 : Int32) else 0) = 0 then some (nI pc * nI (hh k)) else some 0) = some (nI (pc * (if 0 < k ∧ hh k = hh (k - 1) then 0 else hh k))) := by
            by_cases he : 0 < k ∧ hh k = hh (k - 1)
            · rw [if_pos he, if_neg bq_10, if_pos he, Nat.mul_zero, nI_0]
            · rw [if_neg he, if_pos bq_00, if_neg he, pk_mul]
          have es : (if nI k ≤ 0 then some (0 : Int32) else (bo_ld 107 σ 144 (27 + nI k)).bind fun v4 => (bo_ld 107 σ 144 ((27 + nI k) - 1)).bind fun v5 => if v4 = v5 then some 1 else some 0) = some (if 0 < k ∧ hh k = hh (k - 1) then 1 else 0) := by
            by_cases hk0 : k = 0
            · subst hk0
              rw [if_pos (show nI 0 ≤ 0 from Int32.le_refl _), if_neg (by omega)]
            · have h8p := h8 (k - 1) (by omega)
              rw [if_neg (nI_nle (by omega) (by omega)), show (27 : Int32) + nI k = nI (27 + k) from nI_add 27 k, show nI (27 + k) - 1 = nI (27 + (k - 1)) by rw [show 27 + k = (27 + (k - 1)) + 1 by omega, nI_pred], rf_ldk _ (by omega), Option.bind_some, rf_ldk _ (by omega), Option.bind_some, (h8 k hlt).1, h8p.1]
              by_cases he : hh k = hh (k - 1)
              · rw [if_pos (by rw [he]), if_pos ⟨by omega, he⟩]
              · rw [if_neg (fun z => he ((nI_eq (by omega) (by omega)).mp z)), if_neg (fun z => he z.2)]
          simp only [mX11_widows_L19]
          rw [show bo_ld 107 σ 144 26 = some (σ 144 26) from rf_ldk 26 (by decide), Option.bind_some, h26, if_neg (nI_ge hlt (by omega)), es, Option.bind_some, show (27 : Int32) + nI k = nI (27 + k) from nI_add 27 k, rf_ldk _ (by omega), Option.bind_some, (h8 k hlt).1, ew, Option.bind_some, nI_add, nI_1, ← Nat.mul_add]
          rfl) bo_fuel 0 (nI 0) (Nat.zero_le _) (bq_fuel (by omega)) rfl
      rw [← nI_0, show mX11_widows_L19 σ (nI pc) bo_fuel (nI 0) (nI 0) = some b from hb, hq]
    rw [hlog, Option.bind_some, q1, q2]
    exact ⟨_, rfl, by rw [Option.bind_some, pk_mul, Nat.mul_comm]⟩
  · rw [if_neg c, if_pos bq_00]
    refine ⟨_, ?_, rfl⟩
    by_cases c1 : p < 0
    · rw [if_pos c1]
    · rw [if_neg c1, if_neg (fun z => c ⟨fa_of_nlt c1, z⟩)]
theorem fb_sm_ext {f : Nat → Nat} {n : Nat} : ∀ {m : Nat}, (∀ k, n ≤ k → k < m → f k = 0) → n ≤ m → fb_sm f m = fb_sm f n
  | 0, _, h => by rw [Nat.le_zero.mp h]
  | m + 1, hb, h => by
    by_cases e : n = m + 1
    · rw [e]
    · rw [fb_sm_succ, hb m (by omega) (by omega), fb_sm_ext (m := m) (fun k z1 z2 => hb k z1 (by omega)) (by omega), Nat.add_zero]
def sp_ah (V : Nat → Int32) (pn : Nat → Nat) (d e : Nat) : Bool := decide (V e = 1) && (decide (pn d < pn e) || (decide (pn e = pn d) && decide (e < d)))
theorem st_share (h : in_all σ) (p : Int32) : ∃ r, mX10_share σ p = some r ∧ mX11_share σ p = some r := by
  obtain ⟨D, G, S, X, g, hH, hN, hR⟩ := h
  have h7 := hH.1.nD.2
  unfold mX10_share mX11_share
  rw [cl_isDrinker hH, rf_isDrinker hH.1 sp_ag.rf, Option.bind_some, Option.bind_some]
  by_cases c : 0 ≤ p ∧ p < nI D
  · rw [if_pos c, if_neg bq_10, if_neg bq_10]
    obtain ⟨d, rfl, hd⟩ := bq_pick (by omega) c
    obtain ⟨pn, hpn⟩ : ∃ pn : Nat → Nat, pn = fun k => (σ 144 (7 + k)).toNatClampNeg := ⟨_, rfl⟩
    have hp : ∀ k, k < 7 → σ 144 (7 + k) = nI (pn k) ∧ pn k ≤ 20 := by
      intro k hk
      obtain ⟨v, hv, -, hv2⟩ := (hN.1.dr k hk).2.1
      have : pn k = v := by rw [hpn]; show (σ 144 (7 + k)).toNatClampNeg = v; rw [hv, nI_clamp (by omega)]
      rw [this]
      exact ⟨hv, hv2⟩
    have hp0 : ∀ k, D ≤ k → k < 7 → pn k = 0 := by
      intro k h1 h2
      rw [hpn]
      show (σ 144 (7 + k)).toNatClampNeg = 0
      rw [hN.1.no k h1 h2]
      decide
    unfold mX10_bit
    rw [hN.2.ins, bq_popset h7, Option.bind_some, Option.bind_some, ← hN.2.ins, cl_bitin hN h7 hd, rf_ld0 (by omega), Option.bind_some]
    by_cases c0 : σ 144 d = 0
    · rw [if_pos c0, if_pos c0]; exact ⟨_, rfl, rfl⟩
    · rw [if_neg c0, if_neg c0]
      have c1 : σ 144 d = 1 := by
        obtain ⟨v, hv, -, hv2⟩ := (hN.1.dr d (by omega)).1
        rcases (show v = 0 ∨ v = 1 by omega) with e | e <;> subst e
        · exact absurd hv c0
        · exact hv
      obtain ⟨mn, hmn⟩ : ∃ mn, mn = sp_cnt (fun d => decide (σ 144 d = 1)) D := ⟨_, rfl⟩
      have hm0 : 0 < mn := by
        rcases Nat.eq_zero_or_pos mn with z | z
        · exfalso
          have : ∀ n, n ≤ D → d < n → 0 < sp_cnt (fun d => decide (σ 144 d = 1)) n := by
            intro n
            induction n with
            | zero => intro _ h; omega
            | succ n ih =>
              intro h1 h2
              by_cases e : d = n
              · subst e; rw [sp_cnt_t (by simp [c1])]; omega
              · have := ih (by omega) (by omega)
                show 0 < _ + _
                omega
          have := this D (Nat.le_refl _) hd
          omega
        · exact z
      have hm7 : mn ≤ 7 := by have := sp_cnt_le (fun d => decide (σ 144 d = 1)) D; omega
      rw [← hmn, if_pos (show 0 < nI mn from by rw [← nI_0]; exact nI_lt hm0 (by omega))]
      have hsum : ∀ n, n ≤ 7 → fb_sm pn n ≤ 140 := by
        intro n hn
        have : ∀ m, m ≤ 7 → fb_sm pn m ≤ 20 * m := by
          intro m
          induction m with
          | zero => intro _; exact Nat.le_refl _
          | succ m ih =>
            intro hm
            rw [fb_sm_succ]
            have a := ih (by omega)
            have b := (hp m (by omega)).2
            omega
        have := this n hn
        omega
      have q1 : mX8_sum σ 7 51 = some (nI (fb_sm pn 7)) := by
        unfold mX8_sum
        obtain ⟨b, hb, hq⟩ := bq_inv (fun n a k => mX8_sum_L10 σ 7 51 n a (nI k)) 7 (fun k a => a = nI (fb_sm pn k)) (fun r => r = nI (fb_sm pn 7)) (by
          intro n k a hk ha
          subst ha
          by_cases hk7 : k = 7
          · subst hk7
            exact Or.inl ⟨_, by simp only [mX8_sum_L10]; rw [if_pos (show Int32.ofNat 7 ≤ nI 7 from Int32.le_refl _)], rfl⟩
          · have hlt : k < 7 := by omega
            refine Or.inr ⟨hlt, _, rfl, ?_⟩
            simp only [mX8_sum_L10]
            rw [if_neg (show ¬ Int32.ofNat 7 ≤ nI k from nI_ge (b := 7) hlt (by decide)), bq_ld hlt (by decide), Option.bind_some, show σ 51 k = σ 144 (7 + k) from (hN.2.dr k hlt).1, (hp k hlt).1, nI_add, nI_1, fb_sm_succ]) bo_fuel 0 (nI 0) (Nat.zero_le _) (bq_fuel (by omega)) rfl
        rw [← nI_0, show mX8_sum_L10 σ 7 51 bo_fuel (nI 0) (nI 0) = some b from hb, hq]
        rfl
      have esub : ∀ a b : Nat, a ≤ 20 → b ≤ 20 → ((0 < nI a - nI b) ↔ b < a) ∧ ((nI a - nI b = 0) ↔ a = b) := by
        intro a b ha hb
        have e := pk_sub_toInt (a := a) (b := b) (by omega) (by omega)
        constructor
        · rw [fa_lt, e, Int32.toInt_zero]; omega
        · rw [fa_eq, e, Int32.toInt_zero]; omega
      have q2 : mX10_payersAhead σ (nI d) = some (nI (sp_cnt (sp_ah (σ 144) pn d) D)) := by
        unfold mX10_payersAhead
        obtain ⟨b, hb, hq⟩ := bq_inv (fun n a k => mX10_payersAhead_L4 σ (nI d) n a (nI k)) D (fun k a => a = nI (sp_cnt (sp_ah (σ 144) pn d) k)) (fun r => r = nI (sp_cnt (sp_ah (σ 144) pn d) D)) (by
          intro n k a hk ha
          subst ha
          by_cases hkD : k = D
          · subst hkD
            exact Or.inl ⟨_, by simp only [mX10_payersAhead_L4, hH.2.1.nD]; rw [if_pos (Int32.le_refl _)], rfl⟩
          · have hlt : k < D := by omega
            refine Or.inr ⟨hlt, _, rfl, ?_⟩
            have ek := hp k (by omega)
            have ed := hp d (by omega)
            simp only [mX10_payersAhead_L4, hH.2.1.nD, mX10_bit]
            rw [if_neg (nI_ge hlt (by omega)), bq_at (by omega) (by decide), Option.bind_some, bq_at (by omega) (by decide), Option.bind_some, Option.bind_some, cl_bitin hN h7 hlt, show σ 51 k = σ 144 (7 + k) from (hN.2.dr k (by omega)).1, show σ 51 d = σ 144 (7 + d) from (hN.2.dr d (by omega)).1, ek.1, ed.1, nI_1]
            obtain ⟨x1, x2⟩ := esub (pn k) (pn d) ek.2 ed.2
            by_cases v1 : σ 144 k = 1
            · rw [if_pos v1]
              by_cases v2 : pn d < pn k
              · rw [if_pos (x1.mpr v2), Option.bind_some, nI_1, sp_cnt_t (by unfold sp_ah; simp [v1, v2])]
              · rw [if_neg (fun z => v2 (x1.mp z))]
                by_cases v3 : pn k = pn d
                · rw [if_pos (x2.mpr v3)]
                  by_cases v4 : d ≤ k
                  · rw [if_pos (nI_le v4 (by omega)), Option.bind_some, sp_cnt_f (by unfold sp_ah; simp [v2, v4]), nI_1]
                  · rw [if_neg (nI_ge (by omega) (by omega)), Option.bind_some, nI_1, sp_cnt_t (by unfold sp_ah; simp [v1, v3]; omega)]
                · rw [if_neg (fun z => v3 (x2.mp z)), Option.bind_some, sp_cnt_f (by unfold sp_ah; simp [v2, v3]), nI_1]
            · rw [if_neg v1, Option.bind_some, sp_cnt_f (by unfold sp_ah; simp [v1]), nI_1]) bo_fuel 0 (nI 0) (Nat.zero_le _) (bq_fuel (by omega)) rfl
        rw [← nI_0, show mX10_payersAhead_L4 σ (nI d) bo_fuel (nI 0) (nI 0) = some b from hb, hq]
        rfl
      have q3 : mX11_share_L35 σ (nI d) bo_fuel 0 0 0 0 = some (nI (fb_sm pn D), nI mn, nI (sp_cnt (sp_ah (σ 144) pn d) D)) := by
        obtain ⟨b, hb, hq⟩ := bq_inv (fun n (a : Int32 × Int32 × Int32) k => mX11_share_L35 σ (nI d) n a.1 a.2.1 a.2.2 (nI k)) D (fun k a => a = (nI (fb_sm pn k), nI (sp_cnt (fun d => decide (σ 144 d = 1)) k), nI (sp_cnt (sp_ah (σ 144) pn d) k))) (fun r => r = (nI (fb_sm pn D), nI mn, nI (sp_cnt (sp_ah (σ 144) pn d) D))) (by
          intro n k a hk ha
          subst ha
          by_cases hkD : k = D
          · subst hkD
            exact Or.inl ⟨_, by simp only [mX11_share_L35, hH.1.nD.1]; rw [if_pos (Int32.le_refl _)], by rw [hmn]⟩
          · have hlt : k < D := by omega
            refine Or.inr ⟨hlt, _, rfl, ?_⟩
            have ek := hp k (by omega)
            have ed := hp d (by omega)
            have ein : nI (sp_cnt (fun d => decide (σ 144 d = 1)) k) + σ 144 k = nI (sp_cnt (fun d => decide (σ 144 d = 1)) (k + 1)) := by
              show _ = nI (sp_cnt (fun d => decide (σ 144 d = 1)) k + (if decide (σ 144 k = 1) then 1 else 0))
              rw [← nI_add, bq_01 (hN.1.dr k (by omega)).1]
            have eah : (if σ 144 k = 1 then if nI k = nI d then some (0 : Int32) else (mX11_isAhead σ (nI k) (nI d)).bind fun v7 => if v7 = 0 then some 0 else some 1 else some 0) = some (if sp_ah (σ 144) pn d k then 1 else 0) := by
              unfold sp_ah
              by_cases v1 : σ 144 k = 1
              · rw [if_pos v1]
                by_cases vd : k = d
                · subst vd
                  rw [if_pos rfl]
                  simp
                · rw [if_neg (fun z => vd ((nI_eq (by omega) (by omega)).mp z))]
                  unfold mX11_isAhead
                  rw [rf_ld7 (by omega), Option.bind_some, rf_ld7 (by omega), Option.bind_some, Option.bind_some, Option.bind_some, ek.1, ed.1]
                  by_cases v2 : pn d < pn k
                  · rw [if_pos (nI_lt v2 (by omega))]
                    simp [v1, v2]
                  · rw [if_neg (nI_nlt (by omega) (by omega))]
                    by_cases v3 : pn k = pn d
                    · rw [if_pos (by rw [v3])]
                      by_cases v4 : d ≤ k
                      · rw [if_pos (nI_le v4 (by omega))]
                        have : ¬ k < d := by omega
                        simp [v1, v2, v3, this]
                      · rw [if_neg (nI_ge (by omega) (by omega))]
                        have : k < d := by omega
                        simp [v1, v2, v3, this]
                    · rw [if_neg (fun z => v3 ((nI_eq (by omega) (by omega)).mp z))]
                      simp [v1, v2, v3]
              · rw [if_neg v1]
                simp [v1]
            simp only [mX11_share_L35, hH.1.nD.1]
            rw [if_neg (nI_ge hlt (by omega)), rf_ld7 (by omega), Option.bind_some, rf_ld0 (by omega), Option.bind_some, Option.bind_some, eah, Option.bind_some, ein, ek.1, nI_add, fb_sm_succ, nI_1]
            congr 1
            cases hz : sp_ah (σ 144) pn d k with
            | true => rw [sp_cnt_t hz]; exact nI_1 _
            | false => rw [sp_cnt_f hz]; exact Int32.add_zero _) bo_fuel 0 (nI 0, nI 0, nI 0) (Nat.zero_le _) (bq_fuel (by omega)) rfl
        rw [nI_0] at hb
        rw [show mX11_share_L35 σ (nI d) bo_fuel 0 0 0 0 = some b from hb, hq]
      have hs7 := hsum 7 (Nat.le_refl _)
      rw [q1, Option.bind_some, q2, Option.bind_some, q3, Option.bind_some, fb_sm_ext (n := D) (fun k z1 z2 => hp0 k z1 z2) h7]
      dsimp only
      rw [bq_iremo hm0 (by omega), bq_idivo hm0 (by omega), Option.bind_some, Option.bind_some]
      by_cases z : bo_irm (nI (fb_sm pn D)) (nI mn) ≤ nI (sp_cnt (sp_ah (σ 144) pn d) D)
      · simp only [if_pos z, Option.bind_some]; exact ⟨_, rfl, rfl⟩
      · simp only [if_neg z, Option.bind_some]; exact ⟨_, rfl, rfl⟩
  · rw [if_neg c, if_pos bq_00, if_pos bq_00]
    exact ⟨_, rfl, rfl⟩
end CNT
