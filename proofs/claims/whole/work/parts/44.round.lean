/-! round -/
section RND
variable {σ : bo_M} {D G S X g : Nat}
def sp_capL (a b : Nat) : Nat := min (Nat.lcm a b) 999999
theorem sp_lcm_mul {a b : Nat} (hb : 0 < b) : ∃ i, 1 ≤ i ∧ i ≤ b ∧ Nat.lcm a b = a * i := by
  have hg : 0 < Nat.gcd a b := Nat.gcd_pos_of_pos_right _ hb
  refine ⟨b / Nat.gcd a b, ?_, Nat.div_le_self _ _, ?_⟩
  · exact Nat.div_pos (Nat.le_of_dvd hb (Nat.gcd_dvd_right a b)) hg
  · unfold Nat.lcm
    exact Nat.mul_div_assoc _ (Nat.gcd_dvd_right a b)
theorem cl_common {a b : Nat} (ha : 1 ≤ a) (ha2 : a ≤ 999999) (hb : 1 ≤ b) (hb2 : b ≤ 40) : mX10_leastCommon σ (nI a) (nI b) = some (nI (sp_capL a b)) := by
  obtain ⟨i0, h1, h2, h3⟩ := sp_lcm_mul (a := a) (b := b) hb
  have key : ∀ n i, 1 ≤ i → i ≤ i0 → b - i < n → a * (i - 1) < 999999 → ∃ w, mX10_leastCommon_L16 σ (nI a) (nI b) n (nI (a * i)) (nI i) = some (nI w) ∧ w < 2 ^ 31 ∧ min w 999999 = sp_capL a b := by
    intro n
    induction n with
    | zero => intro i _ _ h _; omega
    | succ n ih =>
      intro i hi hi0 hn hlt
      have hb31 : a * i < 2 ^ 31 := by
        have : a * i = a * (i - 1) + a := by rw [← Nat.mul_succ]; congr 1; omega
        omega
      unfold sp_capL
      rw [h3]
      simp only [mX10_leastCommon_L16]
      by_cases c1 : b ≤ i
      · rw [if_pos (nI_le c1 (by omega)), show i0 = i by omega]
        exact ⟨_, rfl, hb31, rfl⟩
      · rw [if_neg (nI_ge (by omega) (by omega)), bq_iremo (by omega) (by omega), Option.bind_some, bq_irm hb31 (by omega) (by omega)]
        by_cases c2 : a * i % b = 0
        · rw [if_pos (by rw [c2, nI_0])]
          refine ⟨_, rfl, hb31, ?_⟩
          have hd : Nat.lcm a b ∣ a * i := Nat.lcm_dvd (Nat.dvd_mul_right a i) (Nat.dvd_of_mod_eq_zero c2)
          have hle := Nat.le_of_dvd (Nat.mul_pos ha hi) hd
          rw [h3] at hle
          have := Nat.le_of_mul_le_mul_left hle ha
          rw [show i0 = i by omega]
        · have hm := Nat.mod_lt (a * i) (show 0 < b by omega)
          rw [if_neg (fun z => c2 ((bq_eq0 (by omega)).mp z))]
          by_cases c3 : 999999 ≤ a * i
          · rw [show (999999 : Int32) = nI 999999 from rfl, if_pos (nI_le c3 hb31)]
            refine ⟨_, rfl, hb31, ?_⟩
            have := Nat.mul_le_mul_left a hi0
            omega
          · rw [show (999999 : Int32) = nI 999999 from rfl, if_neg (nI_ge (by omega) (by decide)), nI_add, nI_1, ← Nat.mul_succ]
            have hne : i ≠ i0 := by
              intro e
              apply c2
              rw [e, ← h3]
              exact Nat.mod_eq_zero_of_dvd (Nat.dvd_lcm_right a b)
            obtain ⟨w, e1, e2, e3⟩ := ih (i + 1) (by omega) (by omega) (by omega) (by rw [Nat.add_sub_cancel]; omega)
            unfold sp_capL at e3
            rw [h3] at e3
            exact ⟨w, e1, e2, e3⟩
  obtain ⟨w, e1, e2, e3⟩ := key bo_fuel 1 (Nat.le_refl _) h1 (bq_fuel (by omega)) (by omega)
  rw [Nat.mul_one] at e1
  unfold mX10_leastCommon
  rw [show (1 : Int32) = nI 1 from rfl, if_neg (nI_nlt ha (by omega)), if_pos (nI_le hb (by omega)), e1, Option.bind_some, show (999999 : Int32) = nI 999999 from rfl]
  by_cases c : 999999 < w
  · rw [if_pos (nI_lt c e2), ← e3, Nat.min_eq_right (by omega)]
  · rw [if_neg (nI_nlt (by omega) (by decide)), ← e3, Nat.min_eq_left (by omega)]
theorem rf_common {a b : Nat} (ha : a < 2 ^ 31) (hb : b ≤ 2800) : mX11_common σ (nI a) (nI b) = some (nI (Nat.gcd a b)) := by
  have key : ∀ n a b, a < 2 ^ 31 → b < 2 ^ 31 → b < n → mX11_common_L4 σ n (nI a) (nI b) = some (nI (Nat.gcd a b)) := by
    intro n
    induction n with
    | zero => intro a b _ _ h; omega
    | succ n ih =>
      intro a b ha hb hn
      simp only [mX11_common_L4]
      by_cases c : b = 0
      · subst c
        rw [if_pos (show nI 0 ≤ 0 from Int32.le_refl _), Nat.gcd_zero_right]
      · have hm := Nat.mod_lt a (show 0 < b by omega)
        rw [if_neg (nI_nle (by omega) (by omega)), bq_iremo (by omega) hb, Option.bind_some, bq_irm ha (by omega) hb, ih _ _ hb (by omega) (by omega), Nat.gcd_comm b, ← Nat.gcd_rec, Nat.gcd_comm b]
  unfold mX11_common
  rw [key bo_fuel a b ha (by omega) (bq_fuel (by omega)), Option.bind_some]
def sp_rnd (V e : Nat → Nat) : Nat → Nat
  | 0 => 1
  | k + 1 => if V k = 1 then sp_capL (sp_rnd V e k) (e k) else sp_rnd V e k
theorem sp_rnd_le {V e : Nat → Nat} : ∀ {k : Nat}, (∀ d, d < k → 0 < e d) → 1 ≤ sp_rnd V e k ∧ sp_rnd V e k ≤ 999999
  | 0, _ => by simp [sp_rnd]
  | k + 1, h => by
    have ih := sp_rnd_le (V := V) (k := k) (fun d hd => h d (by omega))
    unfold sp_rnd
    split
    · unfold sp_capL
      have := Nat.lcm_pos (show 0 < sp_rnd V e k by omega) (h k (by omega))
      omega
    · exact ih
theorem sp_rnd_stay {V e : Nat → Nat} {k : Nat} : ∀ {n : Nat}, (∀ d, d < n → 0 < e d) → k ≤ n → sp_rnd V e k = 999999 → sp_rnd V e n = 999999
  | 0, _, h, h2 => by rw [Nat.le_zero.mp h] at h2; exact h2
  | n + 1, he, h, h2 => by
    by_cases c : k = n + 1
    · rw [← c]; exact h2
    · have ih := sp_rnd_stay (n := n) (fun d hd => he d (by omega)) (by omega) h2
      unfold sp_rnd
      rw [ih]
      split
      · have := Nat.le_of_dvd (Nat.lcm_pos (show 0 < 999999 by decide) (he n (by omega))) (Nat.dvd_lcm_left 999999 (e n))
        unfold sp_capL
        omega
      · rfl
theorem bq_lToI {n : Nat} (h : n < 2 ^ 31) : Int64.toInt32 (lN n) = nI n := by
  rw [← nI_l h, lg_l2i_i2l]
theorem st_round (h : in_all σ) : ∃ r, mX10_round σ = some r ∧ mX11_round σ = some r := by
  obtain ⟨D, G, S, X, g, hH, hN, hR⟩ := h
  have h7 := hH.1.nD.2
  obtain ⟨e, he⟩ : ∃ e : Nat → Nat, e = fun k => (σ 136 k).toNatClampNeg := ⟨_, rfl⟩
  obtain ⟨V, hV⟩ : ∃ V : Nat → Nat, V = fun k => (σ 144 k).toNatClampNeg := ⟨_, rfl⟩
  have ed : ∀ d, d < D → σ 136 d = nI (e d) ∧ 1 ≤ e d ∧ e d ≤ 40 := by
    intro d hd
    obtain ⟨v, hv, h1, h2⟩ := (hH.1.dr d hd).1
    have : e d = v := by rw [he]; show (σ 136 d).toNatClampNeg = v; rw [hv, nI_clamp (by omega)]
    rw [this]
    exact ⟨hv, h1, h2⟩
  have vd : ∀ d, d < D → σ 144 d = nI (V d) ∧ V d ≤ 1 := by
    intro d hd
    obtain ⟨v, hv, h1, h2⟩ := (hN.1.dr d (by omega)).1
    have : V d = v := by rw [hV]; show (σ 144 d).toNatClampNeg = v; rw [hv, nI_clamp (by omega)]
    rw [this]
    exact ⟨hv, h2⟩
  have hr : ∀ k, k ≤ D → 1 ≤ sp_rnd V e k ∧ sp_rnd V e k ≤ 999999 := fun k hk => sp_rnd_le (fun d hd => (ed d (by omega)).2.1)
  refine ⟨nI (sp_rnd V e D), ?_, ?_⟩
  · unfold mX10_round
    obtain ⟨b, hb, hq⟩ := bq_inv (fun n a k => mX10_round_L4 σ n a (nI k)) D (fun k a => a = nI (sp_rnd V e k)) (fun r => r = nI (sp_rnd V e D)) (by
      intro n k a hk ha
      subst ha
      by_cases hkD : k = D
      · subst hkD
        exact Or.inl ⟨_, by simp only [mX10_round_L4, hH.2.1.nD]; rw [if_pos (Int32.le_refl _)], rfl⟩
      · have hlt : k < D := by omega
        refine Or.inr ⟨hlt, _, rfl, ?_⟩
        obtain ⟨r1, r2⟩ := hr k hk
        obtain ⟨e1, e2, e3⟩ := ed k hlt
        simp only [mX10_round_L4, hH.2.1.nD, mX10_bit]
        rw [if_neg (nI_ge hlt (by omega)), Option.bind_some, cl_bitin hN h7 hlt, bq_at (by omega) (by decide), (hH.2.1.dr k hlt).1, e1]
        simp only [Option.bind_some]
        rw [cl_common r1 r2 e2 e3, nI_1]
        show _ = mX10_round_L4 σ n (nI (if V k = 1 then sp_capL (sp_rnd V e k) (e k) else sp_rnd V e k)) (nI (k + 1))
        rw [(vd k hlt).1]
        by_cases c : V k = 1
        · rw [if_pos (by rw [c]; rfl), if_pos c]
          simp only [Option.bind_some]
        · rw [if_neg (show ¬ nI (V k) = 1 from fun z => c ((nI_eq (b := 1) (by have := (vd k hlt).2; omega) (by decide)).mp z)), if_neg c]
          simp only [Option.bind_some]) bo_fuel 0 (nI 1) (Nat.zero_le _) (bq_fuel (by omega)) rfl
    rw [show mX10_round_L4 σ bo_fuel 1 0 = some b from hb, hq]
    rfl
  · unfold mX11_round
    obtain ⟨b, hb, hq⟩ := bq_inv (fun n a k => mX11_round_L4 σ n a (nI k)) D (fun k a => a = lN (sp_rnd V e k)) (fun r => r = nI (sp_rnd V e D)) (by
      intro n k a hk ha
      subst ha
      obtain ⟨r1, r2⟩ := hr k hk
      by_cases hkD : k = D
      · subst hkD
        exact Or.inl ⟨_, by simp only [mX11_round_L4, hH.1.nD.1]; rw [if_pos (Int32.le_refl _)], bq_lToI (by omega)⟩
      · have hlt : k < D := by omega
        obtain ⟨e1, e2, e3⟩ := ed k hlt
        have hg : 0 < Nat.gcd (sp_rnd V e k) (e k) := Nat.gcd_pos_of_pos_right _ e2
        have hg40 : Nat.gcd (sp_rnd V e k) (e k) ≤ 40 := Nat.le_trans (Nat.le_of_dvd e2 (Nat.gcd_dvd_right _ _)) e3
        have el : sp_rnd V e k / Nat.gcd (sp_rnd V e k) (e k) * e k = Nat.lcm (sp_rnd V e k) (e k) := by
          unfold Nat.lcm
          rw [Nat.mul_comm (sp_rnd V e k) (e k), Nat.mul_div_assoc _ (Nat.gcd_dvd_left _ _), Nat.mul_comm]
        have hl : Nat.lcm (sp_rnd V e k) (e k) ≤ 40000000 := by
          obtain ⟨i, i1, i2, i3⟩ := sp_lcm_mul (a := sp_rnd V e k) (b := e k) e2
          rw [i3]
          exact Nat.le_trans (Nat.mul_le_mul r2 (Nat.le_trans i2 e3)) (by decide)
        have en : sp_rnd V e (k + 1) = if V k = 1 then sp_capL (sp_rnd V e k) (e k) else sp_rnd V e k := rfl
        simp only [mX11_round_L4, hH.1.nD.1]
        rw [if_neg (nI_ge hlt (by omega)), rf_ld0 (by omega), Option.bind_some, bq_ld (by omega) (by decide), (vd k hlt).1, e1, bq_lToI (by omega)]
        simp only [Option.bind_some]
        rw [rf_common (by omega) (by omega)]
        simp only [Option.bind_some]
        rw [nI_l (by omega), nI_l (by omega)]
        unfold bo_ldivo
        rw [if_neg (show ¬ lN (Nat.gcd (sp_rnd V e k) (e k)) = (0 : Int64) from fun z => by have := (pk_lEQ (b := 0) (by omega) (by decide)).mp z; omega), pk_lDiv (by omega) hg (by omega)]
        simp only [Option.bind_some]
        rw [show lN (sp_rnd V e k / Nat.gcd (sp_rnd V e k) (e k)) * lN (e k) = lN (Nat.lcm (sp_rnd V e k) (e k)) by rw [← el]; exact lN_mul _ _]
        by_cases c : V k = 1
        · rw [if_pos (by rw [c]; rfl)]
          rw [if_pos c] at en
          simp only [Option.bind_some]
          by_cases c2 : Nat.lcm (sp_rnd V e k) (e k) ≤ 999999
          · refine Or.inr ⟨hlt, _, rfl, ?_⟩
            rw [show (999999 : Int64) = lN 999999 from rfl, if_pos ((lg_cmp_le _ _).mpr ((pk_lLE (b := 999999) (by omega) (by decide)).mpr c2)), nI_1, en]
            unfold sp_capL
            rw [Nat.min_eq_left c2]
          · refine Or.inl ⟨nI 999999, ?_, ?_⟩
            · rw [show (999999 : Int64) = lN 999999 from rfl, if_neg (fun z => c2 ((pk_lLE (b := 999999) (by omega) (by decide)).mp ((lg_cmp_le _ _).mp z)))]
              rfl
            · rw [sp_rnd_stay (k := k + 1) (fun d hd => (ed d hd).2.1) hlt (by rw [en]; unfold sp_capL; omega)]
        · rw [if_neg (show ¬ nI (V k) = 1 from fun z => c ((nI_eq (b := 1) (by have := (vd k hlt).2; omega) (by decide)).mp z))]
          rw [if_neg c] at en
          simp only [Option.bind_some]
          refine Or.inr ⟨hlt, _, rfl, ?_⟩
          rw [show (999999 : Int64) = lN 999999 from rfl, if_pos ((lg_cmp_le _ _).mpr ((pk_lLE (b := 999999) (by omega) (by decide)).mpr r2)), nI_1, en]) bo_fuel 0 (lN 1) (Nat.zero_le _) (bq_fuel (by omega)) rfl
    rw [show mX11_round_L4 σ bo_fuel 1 0 = some b from hb, hq]
end RND
