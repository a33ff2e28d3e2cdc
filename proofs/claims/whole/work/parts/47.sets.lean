/-! could, listen, muffled: the sets that fit -/
section SETS
variable {σ s N : bo_M} {i D G S X g W : Nat} {V : Nat → Int32} {A H : Nat → Nat}
def sp_al (b : Nat → Bool) : Nat → Bool
  | 0 => true
  | n + 1 => sp_al b n && b n
theorem sp_al_cut {b : Nat → Bool} {k : Nat} (h : b k = false) : ∀ {n : Nat}, k < n → sp_al b n = false
  | 0, z => absurd z (Nat.not_lt_zero _)
  | n + 1, z => by
    unfold sp_al
    by_cases e : k = n
    · rw [← e, h, Bool.and_false]
    · rw [sp_al_cut h (n := n) (by omega), Bool.false_and]
def sp_hb (N : bo_M) (X D : Nat) (V : Nat → Int32) (w q t : Nat) : Nat := sp_muf N (sp_cnt (fun k => w.testBit k && sp_turn N V (nI q) k) D) (if sp_bl N X q then t else 0)
def sp_fits (N : bo_M) (X D : Nat) (V : Nat → Int32) (A H : Nat → Nat) (W w t : Nat) : Bool := sp_al (fun k => decide (sp_hb N X D V w (A k) t = H k)) W
theorem sp_hb_le (hE : sp_env N D G S X) {w q t : Nat} : sp_hb N X D V w q t ≤ 8 := by
  have h7 := hE.nD.2
  unfold sp_hb
  refine Nat.le_trans (sp_muf_le hE) ?_
  have := sp_cnt_le (fun k => w.testBit k && sp_turn N V (nI q) k) D
  omega
/-- what the class's side holds of what is known -/
def kn_c (s : bo_M) (i : Nat) (N : bo_M) (D G S X : Nat) (V : Nat → Int32) (W : Nat) (A H : Nat → Nat) : Prop :=
  sp_inn s i N D G S X ∧ (∀ d, d < 7 → s 52 d = V (14 + d)) ∧ s 24 4 = nI W ∧ ∀ k, k < W → s 25 k = nI (A k) ∧ s 26 k = nI (H k)
def kn_r (s : bo_M) (N : bo_M) (V : Nat → Int32) (W : Nat) (A H : Nat → Nat) : Prop :=
  sp_ag s N ∧ s 144 = V ∧ s 135 44 = nI W ∧ ∀ k, k < W → s 160 k = nI (A k) ∧ s 161 k = nI (H k)
def kn_n (W : Nat) (A H : Nat → Nat) : Prop := W ≤ 6 ∧ ∀ k, k < W → A k ≤ 95 ∧ H k ≤ 16
theorem kn_c.to {s' : bo_M} (h : kn_c s i N D G S X V W A H) (hi : i = 34 ∨ i = 42) (hs : ∀ a, a ≠ 24 → a ≠ 27 → a ≠ 28 → s' a = s a) (h4 : s' 24 4 = s 24 4) : kn_c s' i N D G S X V W A H := by
  refine ⟨h.1.to (fun a z1 z2 => hs a (by omega) (by omega) (by omega)), fun d hd => ?_, by rw [h4]; exact h.2.2.1, fun k hk => ?_⟩
  · rw [hs 52 (by decide) (by decide) (by decide)]; exact h.2.1 d hd
  · rw [hs 25 (by decide) (by decide) (by decide), hs 26 (by decide) (by decide) (by decide)]; exact h.2.2.2 k hk
theorem kn_r.to {s' : bo_M} (h : kn_r s N V W A H) (hs : ∀ a, a ≠ 162 → a ≠ 163 → s' a = s a) : kn_r s' N V W A H := by
  refine ⟨h.1.to (fun a z1 z2 => hs a (by omega) (by omega)), by rw [hs 144 (by decide) (by decide)]; exact h.2.1, by rw [hs 135 (by decide) (by decide)]; exact h.2.2.1, fun k hk => ?_⟩
  rw [hs 160 (by decide) (by decide), hs 161 (by decide) (by decide)]; exact h.2.2.2 k hk
theorem cl_hb (hI : sp_inn s i N D G S X) (hE : sp_env N D G S X) {w q t : Nat} (hw : w < 2 ^ D) (hq : q ≤ 95) (ht : t ≤ 9) :
    mX5_heardBy s i (nI w &&& nI (sp_set (sp_turn N V (nI q)) D)) (nI q) (nI t) = some (nI (sp_hb N X D V w q t)) := by
  have h7 := hE.nD.2
  unfold mX5_heardBy
  rw [fa_and, show w &&& sp_set (sp_turn N V (nI q)) D = sp_set (fun k => w.testBit k && sp_turn N V (nI q) k) D by rw [← sp_set_and, sp_set_self hw], bq_popset h7, Option.bind_some, cl_sexton hI (by omega), Option.bind_some]
  have hc := sp_cnt_le (fun k => w.testBit k && sp_turn N V (nI q) k) D
  unfold sp_hb
  cases sp_bl N X q
  · rw [if_pos (show (if false = true then (1 : Int32) else 0) = 0 from rfl), Option.bind_some, show (0 : Int32) = nI 0 from rfl, cl_echoed hI hE (by omega) (by omega)]
    rfl
  · rw [if_neg (show ¬ (if true = true then (1 : Int32) else 0) = 0 by decide), Option.bind_some, cl_echoed hI hE (by omega) (by omega)]
    rfl
theorem cl_fits (hK : kn_c s i N D G S X V W A H) (hE : sp_env N D G S X) (hn : kn_n W A H) {w t : Nat} (hw : w < 2 ^ D) (ht : t ≤ 9) :
    mX5_fits s i 50 (nI w) (nI t) = some (if sp_fits N X D V A H W w t then 1 else 0) := by
  obtain ⟨hI, hT, h4, hk⟩ := hK
  obtain ⟨hW, hb⟩ := hn
  unfold mX5_fits sp_fits
  obtain ⟨b, hb, hq⟩ := bq_inv (fun n (a : Unit) k => mX5_fits_L3 s i 50 (nI w) (nI t) n (nI k)) W (fun k _ => sp_al (fun k => decide (sp_hb N X D V w (A k) t = H k)) k = true) (fun r => r = if sp_al (fun k => decide (sp_hb N X D V w (A k) t = H k)) W then 1 else 0) (by
    intro n k _ hkW hP
    by_cases h : k = W
    · subst h
      exact Or.inl ⟨1, by simp only [mX5_fits_L3, h4]; rw [if_pos (Int32.le_refl _)], by rw [hP]; rfl⟩
    · have hlt : k < W := by omega
      obtain ⟨e1, e2⟩ := hk k hlt
      obtain ⟨b1, b2⟩ := hb k hlt
      have h8 := sp_hb_le hE (V := V) (w := w) (q := A k) (t := t)
      simp only [mX5_fits_L3, h4]
      rw [if_neg (nI_ge hlt (by omega)), bq_at (by omega) (by decide), Option.bind_some, e1, cl_due hI hE hT, Option.bind_some, cl_hb hI hE hw b1 ht, Option.bind_some, bq_at (by omega) (by decide), Option.bind_some, e2, nI_1]
      by_cases c : sp_hb N X D V w (A k) t = H k
      · refine Or.inr ⟨hlt, (), ?_, ?_⟩
        · show (sp_al _ k && decide (sp_hb N X D V w (A k) t = H k)) = true
          rw [hP]; simp [c]
        · rw [if_pos (by rw [c])]
      · refine Or.inl ⟨0, ?_, ?_⟩
        · rw [if_neg (fun z => c ((nI_eq (by omega) (by omega)).mp z))]
        · rw [sp_al_cut (decide_eq_false c) hlt]; rfl) bo_fuel 0 () (Nat.zero_le _) (bq_fuel (by omega)) rfl
  rw [show mX5_fits_L3 s i 50 (nI w) (nI t) bo_fuel 0 = some b from hb, hq]
theorem rf_hb (hA : sp_ag s N) (hE : sp_env N D G S X) {w q t : Nat} (hw : w < 2 ^ 31) (hq : q ≤ 95) (ht : t ≤ 9) : mX11_heardBy s (nI w) (nI q) (nI t) = some (nI (sp_hb N X D (s 144) w q t)) := by
  have h7 := hE.nD.2
  have eD : s 135 4 = nI D := by rw [hA.1 4 (by decide)]; exact hE.nD.1
  obtain ⟨b, hb, hbq⟩ := bq_inv (fun n a k => mX11_heardBy_L6 s (nI w) (nI q) (nI t) n a (nI k)) D (fun k a => a = nI (sp_cnt (fun k => w.testBit k && sp_turn N (s 144) (nI q) k) k)) (fun r => r = nI (sp_cnt (fun k => w.testBit k && sp_turn N (s 144) (nI q) k) D)) (by
    intro n k a hk ha
    subst ha
    by_cases h : k = D
    · subst h
      exact Or.inl ⟨_, by simp only [mX11_heardBy_L6, eD]; rw [if_pos (Int32.le_refl _)], rfl⟩
    · have hlt : k < D := by omega
      refine Or.inr ⟨hlt, _, rfl, ?_⟩
      simp only [mX11_heardBy_L6, eD]
      rw [if_neg (nI_ge hlt (by omega)), rf_hasb hw (by omega), Option.bind_some, rf_turn hA hE hlt, Option.bind_some, nI_1]
      show _ = mX11_heardBy_L6 s (nI w) (nI q) (nI t) n (nI (sp_cnt _ k + (if (w.testBit k && sp_turn N (s 144) (nI q) k) then 1 else 0))) _
      cases w.testBit k <;> cases sp_turn N (s 144) (nI q) k <;> simp <;> exact congrArg (fun z => mX11_heardBy_L6 s (nI w) (nI q) (nI t) n z (nI (k + 1))) (nI_1 _)) bo_fuel 0 (nI 0) (Nat.zero_le _) (bq_fuel (by omega)) rfl
  have hc := sp_cnt_le (fun k => w.testBit k && sp_turn N (s 144) (nI q) k) D
  unfold mX11_heardBy
  rw [show mX11_heardBy_L6 s (nI w) (nI q) (nI t) bo_fuel 0 0 = some b from hb, hbq, Option.bind_some, rf_bl hA hE (by omega), Option.bind_some]
  unfold sp_hb
  cases sp_bl N X q
  · rw [if_pos (show (if false = true then (1 : Int32) else 0) = 0 from rfl), Option.bind_some, show (0 : Int32) = nI 0 from rfl, rf_muf hA hE (by omega) (by omega)]
    rfl
  · rw [if_neg (show ¬ (if true = true then (1 : Int32) else 0) = 0 by decide), Option.bind_some, rf_muf hA hE (by omega) (by omega)]
    rfl
theorem rf_fits (hK : kn_r s N V W A H) (hE : sp_env N D G S X) (hn : kn_n W A H) {w t : Nat} (hw : w < 2 ^ 31) (ht : t ≤ 9) :
    mX11_couldBe s (nI w) (nI t) = some (if sp_fits N X D V A H W w t then 1 else 0) := by
  obtain ⟨hA, hV, h4, hk⟩ := hK
  obtain ⟨hW, hb⟩ := hn
  subst hV
  unfold mX11_couldBe sp_fits
  obtain ⟨b, hb, hq⟩ := bq_inv (fun n a k => mX11_couldBe_L5 s (nI w) (nI t) n a (nI k)) W (fun k a => a = if sp_al (fun k => decide (sp_hb N X D (s 144) w (A k) t = H k)) k then 1 else 0) (fun r => r = if sp_al (fun k => decide (sp_hb N X D (s 144) w (A k) t = H k)) W then 1 else 0) (by
    intro n k a hkW ha
    subst ha
    by_cases h : k = W
    · subst h
      exact Or.inl ⟨_, by simp only [mX11_couldBe_L5, h4]; rw [if_pos (Int32.le_refl _)], rfl⟩
    · have hlt : k < W := by omega
      obtain ⟨e1, e2⟩ := hk k hlt
      obtain ⟨b1, b2⟩ := hb k hlt
      have h8 := sp_hb_le hE (V := s 144) (w := w) (q := A k) (t := t)
      refine Or.inr ⟨hlt, _, rfl, ?_⟩
      simp only [mX11_couldBe_L5, h4]
      rw [if_neg (nI_ge hlt (by omega)), bq_ld (by omega) (by decide), Option.bind_some, e1, rf_hb hA hE hw b1 ht, Option.bind_some, bq_ld (by omega) (by decide), Option.bind_some, e2, nI_1]
      show _ = mX11_couldBe_L5 s (nI w) (nI t) n (if (sp_al (fun k => decide (sp_hb N X D (s 144) w (A k) t = H k)) k && decide (sp_hb N X D (s 144) w (A k) t = H k)) then 1 else 0) _
      cases sp_al (fun k => decide (sp_hb N X D (s 144) w (A k) t = H k)) k
      · rw [if_pos (show (if false = true then (1 : Int32) else 0) = 0 from rfl)]
        rfl
      · rw [if_neg (show ¬ (if true = true then (1 : Int32) else 0) = 0 by decide)]
        by_cases c : sp_hb N X D (s 144) w (A k) t = H k
        · rw [if_pos (by rw [c])]
          simp [c]
        · rw [if_neg (fun z => c ((nI_eq (by omega) (by omega)).mp z))]
          simp [c]) bo_fuel 0 1 (Nat.zero_le _) (bq_fuel (by omega)) rfl
  rw [show mX11_couldBe_L5 s (nI w) (nI t) bo_fuel 1 0 = some b from hb, hq, Option.bind_some]
  unfold bo_zr
  cases sp_al (fun k => decide (sp_hb N X D (s 144) w (A k) t = H k)) W
  · exact if_pos (Or.inl rfl)
  · exact if_pos (Or.inr rfl)
/-- both sides know the same -/
theorem kn_of (hH : in_house σ D G S X) (hN : in_now σ D g) (hR : in_rest σ D) : ∃ W A H, kn_n W A H ∧ kn_c σ (bo_inn (σ 0 9)) σ D G S X (σ 144) W A H ∧ kn_r σ σ (σ 144) W A H := by
  obtain ⟨W, h1, h2, h3, h4⟩ := hR.2.2.2.2.1
  have key : ∀ k, k < W → σ 25 k = nI (σ 25 k).toNatClampNeg ∧ (σ 25 k).toNatClampNeg ≤ 95 ∧ σ 26 k = nI (σ 26 k).toNatClampNeg ∧ (σ 26 k).toNatClampNeg ≤ 16 := by
    intro k hk
    obtain ⟨-, -, ⟨v, hv, -, hv2⟩, ⟨u, hu, -, hu2⟩⟩ := h4 k hk
    rw [hv, hu, nI_clamp (by omega), nI_clamp (by omega)]
    exact ⟨rfl, hv2, rfl, hu2⟩
  refine ⟨W, fun k => (σ 25 k).toNatClampNeg, fun k => (σ 26 k).toNatClampNeg, ⟨h1, fun k hk => ⟨(key k hk).2.1, (key k hk).2.2.2⟩⟩, ⟨hH.2.1, fun d hd => (hN.2.dr d hd).2, h2, fun k hk => ⟨(key k hk).1, (key k hk).2.2.1⟩⟩, sp_ag.rf, rfl, h3, fun k hk => ?_⟩
  obtain ⟨e1, e2, -, -⟩ := h4 k hk
  rw [← e1, ← e2]
  exact ⟨(key k hk).1, (key k hk).2.2.1⟩
theorem st_muffled (h : in_all σ) : ∃ r, mX10_muffled σ = some r ∧ mX11_muffled σ = some r := by
  obtain ⟨D, G, S, X, g, hH, hN, hR⟩ := h
  have h7 := hH.1.nD.2
  obtain ⟨W, A, H, hn, hc, hr⟩ := kn_of hH hN hR
  unfold mX10_muffled mX11_muffled
  rw [hH.2.1.open_]
  by_cases c : σ 135 0 &&& 1 = 0
  · rw [if_pos c, if_pos c]; exact ⟨_, rfl, rfl⟩
  · rw [if_neg c, if_neg c]
    obtain ⟨w, hw⟩ : ∃ w, w = sp_set (fun d => decide (σ 144 d = 1)) D := ⟨_, rfl⟩
    have hwD : w < 2 ^ D := by rw [hw]; exact sp_set_lt _ _
    have hw7 : w < 128 := by rw [hw]; exact sp_set_127 h7
    obtain ⟨b, hb, hq⟩ := bq_inv (fun n a k => mX10_muffled_L17 σ n a (nI k)) 10 (fun k a => a = nI (sp_set (fun t => sp_fits σ X D (σ 144) A H W w t) k)) (fun r => r = nI (sp_set (fun t => sp_fits σ X D (σ 144) A H W w t) 10)) (by
      intro n k a hk ha
      subst ha
      by_cases h : k = 10
      · subst h
        exact Or.inl ⟨_, by simp only [mX10_muffled_L17]; rw [if_pos (show (9 : Int32) < nI 10 by decide)], rfl⟩
      · refine Or.inr ⟨by omega, _, rfl, ?_⟩
        simp only [mX10_muffled_L17]
        rw [if_neg (show ¬ (9 : Int32) < nI k from nI_nlt (a := 9) (b := k) (by omega) (by decide)), hN.2.ins, ← hw, cl_fits hc hH.1 hn hwD (by omega), Option.bind_some, bq_one_shl (by omega), fa_or, nI_1]
        cases hf : sp_fits σ X D (σ 144) A H W w k
        · rw [if_pos (show (if false = true then (1 : Int32) else 0) = 0 from rfl), Option.bind_some, sp_set_f hf]
        · rw [if_neg (show ¬ (if true = true then (1 : Int32) else 0) = 0 by decide), Option.bind_some, sp_set_t hf]) bo_fuel 0 (nI 0) (Nat.zero_le _) (bq_fuel (by omega)) rfl
    obtain ⟨b2, hb2, hq2⟩ := bq_inv (fun n a k => mX11_muffled_L15 σ n a (nI k)) 10 (fun k a => a = nI (sp_set (fun t => sp_fits σ X D (σ 144) A H W w t) k)) (fun r => r = nI (sp_set (fun t => sp_fits σ X D (σ 144) A H W w t) 10)) (by
      intro n k a hk ha
      subst ha
      by_cases h : k = 10
      · subst h
        exact Or.inl ⟨_, by simp only [mX11_muffled_L15]; rw [if_pos (show (10 : Int32) ≤ nI 10 by decide)], rfl⟩
      · refine Or.inr ⟨by omega, _, rfl, ?_⟩
        simp only [mX11_muffled_L15]
        rw [if_neg (show ¬ (10 : Int32) ≤ nI k from nI_ge (b := 10) (by omega) (by decide)), rf_whoIsIn sp_ag.rf hH.1, ← hw, Option.bind_some, rf_fits hr hH.1 hn (by omega) (by omega), Option.bind_some, bq_one_shl (by omega), nI_1]
        cases hf : sp_fits σ X D (σ 144) A H W w k
        · rw [if_pos (show (if false = true then (1 : Int32) else 0) = 0 from rfl), Option.bind_some, sp_set_f hf, show (0 : Int32) = nI 0 from rfl, fa_or, Nat.or_zero]
        · rw [if_neg (show ¬ (if true = true then (1 : Int32) else 0) = 0 by decide), Option.bind_some, sp_set_t hf, fa_or]) bo_fuel 0 (nI 0) (Nat.zero_le _) (bq_fuel (by omega)) rfl
    rw [show mX10_muffled_L17 σ bo_fuel 0 0 = some b from hb, show mX11_muffled_L15 σ bo_fuel 0 0 = some b2 from hb2, hq, hq2]
    exact ⟨_, rfl, rfl⟩
end SETS
