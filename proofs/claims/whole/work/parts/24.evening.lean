/-! the class's evening: what its questions answer -/
theorem sp_set_t {b : Nat → Bool} {n : Nat} (h : b n = true) : sp_set b (n + 1) = sp_set b n ||| 2 ^ n := by
  show sp_set b n ||| (if b n then 2 ^ n else 0) = _
  rw [h]; rfl
theorem sp_set_f {b : Nat → Bool} {n : Nat} (h : b n = false) : sp_set b (n + 1) = sp_set b n := by
  show sp_set b n ||| (if b n then 2 ^ n else 0) = _
  rw [h]; exact Nat.or_zero _
theorem sp_set_none {b : Nat → Bool} (h : ∀ k, b k = false) : ∀ n, sp_set b n = 0
  | 0 => rfl
  | n + 1 => by rw [sp_set_f (h n), sp_set_none h n]
theorem sp_cnt_t {b : Nat → Bool} {n : Nat} (h : b n = true) : sp_cnt b (n + 1) = sp_cnt b n + 1 := by
  show sp_cnt b n + (if b n then 1 else 0) = _
  rw [h]; rfl
theorem sp_cnt_f {b : Nat → Bool} {n : Nat} (h : b n = false) : sp_cnt b (n + 1) = sp_cnt b n := by
  show sp_cnt b n + (if b n then 1 else 0) = _
  rw [h]; rfl
theorem bq_bs {α : Type} (x : Option α) : (x.bind fun a => some a) = x := by cases x <;> rfl
theorem bq_iremo2 {x y : Int32} {d : Nat} (hy : y = nI d) (h0 : 0 < d) (hd : d < 2 ^ 31) : bo_iremo x y = some (bo_irm x y) := by
  subst hy
  exact bq_iremo h0 hd
theorem bq_fuel {n : Nat} (h : n ≤ 2900) : n < bo_fuel := by
  have := bo_fuel_le
  omega
theorem sp_set_127 {b : Nat → Bool} {n : Nat} (h : n ≤ 7) : sp_set b n < 128 := Nat.lt_of_lt_of_le (sp_set_lt b n) (show 2 ^ n ≤ 2 ^ 7 from Nat.pow_le_pow_right (by decide) h)
section CLE
variable {σ : bo_M} {N : bo_M} {e i D G S X g B : Nat} {V : Nat → Int32}
theorem cl_due (hI : sp_inn σ i N D G S X) (hE : sp_env N D G S X) (hT : ∀ d, d < 7 → σ (e + 2) d = V (14 + d)) (q : Int32) : mX2_due σ e i q = some (nI (sp_set (sp_turn N V q) D)) := by
  have h7 := hE.nD.2
  obtain ⟨b, hb, hq⟩ := bq_inv (fun n a k => mX2_due_L5 σ e i q n a (nI k)) D (fun k a => a = nI (sp_set (sp_turn N V q) k)) (fun r => r = nI (sp_set (sp_turn N V q) D)) (by
    intro n k a hk ha
    subst ha
    by_cases h : k = D
    · subst h
      exact Or.inl ⟨_, by simp only [mX2_due_L5, hI.nD]; rw [if_pos (Int32.le_refl _)], rfl⟩
    · have hlt : k < D := by omega
      refine Or.inr ⟨hlt, _, rfl, ?_⟩
      obtain ⟨T, hT1, hT2, hT3⟩ := (hE.dr k hlt).1
      simp only [mX2_due_L5, hI.nD]
      rw [if_neg (nI_ge hlt (by omega)), bq_at (by omega) (by decide), Option.bind_some, (hI.dr k hlt).1, if_neg (by rw [hT1]; exact nI_nle (by omega) (by omega)), bq_at (by omega) (by decide), Option.bind_some, hT k (by omega), bq_iremo2 hT1 (by omega) (by omega), Option.bind_some, nI_1]
      by_cases c : bo_irm (q + V (14 + k)) (N 136 k) = 0
      · rw [if_pos c, Option.bind_some, bq_one_shl (by omega), fa_or, sp_set_t (by unfold sp_turn; rw [c]; rfl)]
      · rw [if_neg c, Option.bind_some, sp_set_f (by unfold sp_turn; simp [c])]) bo_fuel 0 (nI 0) (Nat.zero_le _) (bq_fuel (by omega)) rfl
  unfold mX2_due
  rw [← nI_0, show mX2_due_L5 σ e i q bo_fuel (nI 0) (nI 0) = some b from hb, hq]
  rfl
theorem cl_first (h4 : σ e 4 = V 21) : mX2_startsDay σ e = some (if sp_first V then 1 else 0) := by
  unfold mX2_startsDay sp_first
  rw [h4]
  by_cases c : bo_irm (V 21) 96 = 0
  · rw [if_pos c]; simp [c]
  · rw [if_neg c]; simp [c]
theorem cl_full (hI : sp_inn σ i N D G S X) (hE : sp_env N D G S X) (h4 : σ e 4 = V 21) (hP : ∀ d, d < 7 → σ (e + 1) d = V (7 + d)) : mX2_full σ e i = some (nI (sp_set (sp_fullb N V) D)) := by
  have h7 := hE.nD.2
  unfold mX2_full
  rw [cl_first h4, Option.bind_some]
  cases hf : sp_first V with
  | true =>
    rw [if_neg (by decide), sp_set_none (fun k => by unfold sp_fullb; rw [hf]; rfl)]
    rfl
  | false =>
    rw [if_pos (by decide)]
    obtain ⟨b, hb, hq⟩ := bq_inv (fun n a k => mX2_full_L13 σ e i n a (nI k)) D (fun k a => a = nI (sp_set (sp_fullb N V) k)) (fun r => r = nI (sp_set (sp_fullb N V) D)) (by
      intro n k a hk ha
      subst ha
      by_cases h : k = D
      · subst h
        exact Or.inl ⟨_, by simp only [mX2_full_L13, hI.nD]; rw [if_pos (Int32.le_refl _)], rfl⟩
      · have hlt : k < D := by omega
        refine Or.inr ⟨hlt, _, rfl, ?_⟩
        simp only [mX2_full_L13, hI.nD]
        rw [if_neg (nI_ge hlt (by omega)), bq_at (by omega) (by decide), Option.bind_some, bq_at (by omega) (by decide), Option.bind_some, hP k (by omega), (hI.dr k hlt).2.1, nI_1]
        by_cases c : V (7 + k) < N 137 k
        · rw [if_pos c, Option.bind_some, sp_set_f (by unfold sp_fullb; simp [c])]
        · rw [if_neg c, Option.bind_some, bq_one_shl (by omega), fa_or, sp_set_t (by unfold sp_fullb; simp [c, hf])]) bo_fuel 0 (nI 0) (Nat.zero_le _) (bq_fuel (by omega)) rfl
    rw [← nI_0, show mX2_full_L13 σ e i bo_fuel (nI 0) (nI 0) = some b from hb, hq]
    rfl
theorem cl_thirsty (hI : sp_inn σ i N D G S X) (hE : sp_env N D G S X) (hR : sp_rep σ e D V g) : mX2_thirsty σ e i = some (nI (sp_set (sp_ring N V) D)) := by
  have h7 := hE.nD.2
  unfold mX2_thirsty
  rw [hR.gone, cl_due hI hE (fun d hd => (hR.dr d hd).2) (V 21), Option.bind_some, cl_full hI hE hR.gone (fun d hd => (hR.dr d hd).1), Option.bind_some, hR.ins, fa_and, bq_not 7 (sp_set_127 h7) (by decide) (Nat.and_lt_two_pow _ (sp_set_127 h7))]
  congr 2
  rw [← sp_set_self (s := sp_set (sp_ring N V) D) (n := 7) (sp_set_127 h7)]
  apply sp_set_cong
  intro k hk
  rw [Nat.testBit_and, sp_set_bit, sp_set_bit, sp_set_bit, sp_set_bit]
  unfold sp_ring
  by_cases hkD : k < D <;> simp [hkD]
theorem cl_isWet (hI : sp_inn σ i N D G S X) (hR : sp_rep σ e D V g) : mX2_isWet σ e i = some (if sp_wet N V then 1 else 0) := by
  unfold mX2_isWet mX10_bit sp_wet
  rw [hR.rain, hR.gone, hI.wet, Option.bind_some]
  by_cases c : V 25 = 0
  · rw [if_pos c, if_pos c]
    by_cases c2 : ((N 135 3 >>> (bo_irm (V 21 / 96) 7 &&& 31)) &&& 1) = 1
    · rw [if_pos c2]; simp [c2]
    · rw [if_neg c2]; simp [c2]
  · rw [if_neg c, if_neg c]
    by_cases c2 : V 25 = 1
    · rw [if_pos c2]; simp [c2]
    · rw [if_neg c2]; simp [c2]
theorem bq_mon {a t : Nat} (ha : a < 2 ^ 30) (ht : t < 2 ^ 30) : (if 0 < nI a - nI t then nI a - nI t else 0) = nI (a - t) := by
  by_cases h : a ≤ t
  · rw [if_neg, Nat.sub_eq_zero_of_le h, nI_0]
    intro h2
    rw [fa_lt, pk_sub_toInt ha ht, Int32.toInt_zero] at h2
    omega
  · rw [if_pos, pk_sub (by omega)]
    rw [pk_sub (by omega), ← nI_0]
    exact nI_lt (by omega) (by omega)
theorem cl_sexton (hI : sp_inn σ i N D G S X) {q : Nat} (hq : q < 96) : mX4_sextonAt σ i (nI q) = some (if sp_bl N X q then 1 else 0) := by
  unfold mX4_sextonAt
  rw [bq_at hq (by decide), Option.bind_some, hI.bl q hq]
  cases sp_bl N X q <;> rfl
theorem cl_echoed (hI : sp_inn σ i N D G S X) (hE : sp_env N D G S X) {a t : Nat} (ha : a < 2 ^ 30) (ht : t < 2 ^ 30) : mX4_echoed σ i (nI a) (nI t) = some (nI (sp_muf N a t)) := by
  obtain ⟨ec, he, -, he2⟩ := hE.echo
  unfold mX4_echoed sp_muf
  rw [bq_mon ha ht, hI.echo, he, nI_clamp (by omega)]
  by_cases h : a ≤ t
  · rw [if_pos h, if_pos]
    · rw [nI_0]
    · rw [Nat.sub_eq_zero_of_le h]
      exact nI_lt (show 0 < 1 by decide) (by decide)
  · rw [if_neg h, if_neg, nI_add]
    exact nI_nlt (show 1 ≤ a - t by omega) (by omega)
theorem sp_muf_le (hE : sp_env N D G S X) {a t : Nat} : sp_muf N a t ≤ a + 1 := by
  obtain ⟨ec, he, -, he2⟩ := hE.echo
  unfold sp_muf
  rw [he, nI_clamp (by omega)]
  split <;> omega
theorem sp_heard_le (hE : sp_env N D G S X) {r : Nat} : sp_heard N X V g r ≤ r + 1 := by
  unfold sp_heard
  refine Nat.le_trans (sp_muf_le hE) ?_
  split <;> omega
theorem cl_heardOf (hI : sp_inn σ i N D G S X) (hE : sp_env N D G S X) (hR : sp_rep σ e D V g) (hg : V 21 = nI g) (hg2 : g < 2 ^ 31) {r : Nat} (hr : r < 2 ^ 30) : mX2_heardOf σ e i (nI r) = some (nI (sp_heard N X V g r)) := by
  obtain ⟨tk, ht, -, ht2⟩ := hE.takes
  unfold mX2_heardOf
  have hcov : Option.bind (α := Int32) (if 0 < (σ e 7) then some 1 else (mX4_sextonAt σ i (bo_irm (σ e 4) 96)).bind fun v2 => if v2 = 0 then some 0 else some 1) (fun a => some a) = some (if sp_cov N X V g then 1 else 0) := by
    rw [hR.hung, hR.gone, hg, show bo_irm (nI g) 96 = nI (g % 96) from bq_irm hg2 (by decide) (by decide), cl_sexton hI (Nat.mod_lt _ (by decide)), Option.bind_some]
    unfold sp_cov
    by_cases c : 0 < V 23
    · rw [if_pos c]; simp [c]
    · rw [if_neg c]
      cases sp_bl N X (g % 96) <;> simp [c]
  have hcov2 : (if 0 < (σ e 7) then some 1 else (mX4_sextonAt σ i (bo_irm (σ e 4) 96)).bind fun v2 => if v2 = 0 then some 0 else some 1) = some (if sp_cov N X V g then (1 : Int32) else 0) := by
    rw [← hcov, bq_bs]
  rw [hcov2, Option.bind_some, cl_isWet hI hR, Option.bind_some]
  have h1 : (if (if sp_wet N V then (1 : Int32) else 0) = 0 then some (nI r) else some (nI r / 2)) = some (nI (if sp_wet N V then r / 2 else r)) := by
    cases sp_wet N V
    · rfl
    · rw [if_neg (by decide), show nI r / 2 = nI (r / 2) from pk_div (by omega) (by decide) (by decide)]
      rfl
  have h2 : (if (if sp_cov N X V g then (1 : Int32) else 0) = 0 then some (0 : Int32) else some (σ i 9)) = some (nI (if sp_cov N X V g then (N 135 2).toNatClampNeg else 0)) := by
    rw [hI.takes, ht, nI_clamp (by omega)]
    cases sp_cov N X V g
    · rw [if_pos (by decide), ← nI_0]; rfl
    · rw [if_neg (by decide)]; rfl
  rw [h1, Option.bind_some, h2, Option.bind_some, cl_echoed hI hE (by split <;> omega) (by rw [ht, nI_clamp (by omega)]; split <;> omega)]
  rfl
end CLE
