/-! the class reads the text -/
section CLREAD
variable {σ σ' s N : bo_M} {T : Nat → Nat} {m a i D G S X : Nat}
def ps_clause (T : Nat → Nat) (m : Nat) (y : PS) : Except (Nat × Nat) PS :=
  if T y.1 = 98 then ps_bell T m y
  else if y.2.1 135 0 &&& 1 = 0 then .error (1, y.1)
  else if T y.1 = 100 then ps_drinker T m y
  else if T y.1 = 103 then ps_goer T m y
  else if T y.1 = 110 then ps_signal T m y
  else if T y.1 = 115 then ps_sexton T m y
  else .error (1, y.1)
def ps_read (T : Nat → Nat) (m : Nat) : Nat → PS → Except (Nat × Nat) PS
  | 0, y => .ok y
  | r + 1, y => if m ≤ y.1 then .ok y else (ps_clause T m y).bind fun y' => ps_read T m r (ps_sk T m y'.1, y'.2)
theorem cl_bad1 {y : PS} (hc : cr σ i T m y) : bad i σ ((mX7_wrong σ 1 (σ 1 1)).bind fun σ23 => some σ23) 1 y.1 := by
  obtain ⟨h1, h2, h3, h4, h5, h6, h8⟩ := hc
  have hm := h1.1
  rw [cl_wrong, Option.bind_some, h2]
  exact ⟨_, rfl, (wr_fr (σ := σ)).H, by rw [wr_3 h4]; rfl, by rw [wr_5 h4], by omega, y.1, by rw [wr_12 (by omega), h2], by omega⟩
theorem cl_letter {x c : Nat} (hx : x ≤ 255) (hc : c ≤ 255) : (nI x = nI c) = (x = c) := propext (nI_eq (by omega) (by omega))
theorem cl_clause (hi : i = 34 ∨ i = 42) {y : PS} (hc : cr σ i T m y) (hE : ps_env y) (ha : y.1 < m) : cl_res i T m σ y.1 (mX7_readClause σ i) (ps_clause T m y) := by
  have hm := hc.1.1
  obtain ⟨t1, t2⟩ := hc.1.2.2 y.1 ha
  have hb := cl_bell hi hc hE
  have hd := cl_drinker hi hc hE
  have hg := cl_goer hi hc hE
  have hs := cl_signal hi hc hE
  have hx := cl_sextons hi hc hE
  have h1 := cl_bad1 hc
  unfold mX7_readClause ps_clause
  rw [hc.2.1, bq_at (by omega) (by decide), Option.bind_some, t1, hc.2.2.2.2.2.1.open_]
  simp only [show (98 : Int32) = nI 98 from rfl, show (100 : Int32) = nI 100 from rfl, show (103 : Int32) = nI 103 from rfl, show (110 : Int32) = nI 110 from rfl, show (115 : Int32) = nI 115 from rfl, cl_letter t2 (show 98 ≤ 255 by decide), cl_letter t2 (show 100 ≤ 255 by decide), cl_letter t2 (show 103 ≤ 255 by decide), cl_letter t2 (show 110 ≤ 255 by decide), cl_letter t2 (show 115 ≤ 255 by decide), bq_bs]
  rw [hc.2.1, bq_bs] at h1
  by_cases c0 : y.2.1 135 0 &&& 1 = 0
  · rw [if_pos c0]
    by_cases c1 : T y.1 = 98
    · rw [if_pos c1, if_pos c1, if_pos c1]; exact hb
    · rw [if_neg c1, if_neg c1, if_pos c0]; exact h1
  · rw [if_neg c0]
    by_cases c1 : T y.1 = 98
    · rw [if_pos c1, if_pos c1]; exact hb
    · rw [if_neg c1, if_neg c1, if_neg c0]
      by_cases c2 : T y.1 = 100
      · rw [if_pos c2, if_pos c2]; exact hd
      · rw [if_neg c2, if_neg c2]
        by_cases c3 : T y.1 = 103
        · rw [if_pos c3, if_pos c3]; exact hg
        · rw [if_neg c3, if_neg c3]
          by_cases c4 : T y.1 = 110
          · rw [if_pos c4, if_pos c4]; exact hs
          · rw [if_neg c4, if_neg c4]
            by_cases c5 : T y.1 = 115
            · rw [if_pos c5, if_pos c5]; exact hx
            · rw [if_neg c5, if_neg c5]; exact h1
theorem cr_skip {y : PS} (hc : cr σ i T m y) (hi : i = 34 ∨ i = 42) : ∃ σ', mX7_skipBlanks σ = some σ' ∧ fr1 σ σ' ∧ cr σ' i T m (ps_sk T m y.1, y.2) := by
  obtain ⟨h1, h2, h3, h4, h5, h6, h8⟩ := hc
  have hm := h1.1
  obtain ⟨k1, k2, k3⟩ := ps_sk_le (T := T) (m := m) (m - y.1) y.1 rfl
  have f : fr1 σ (bo_up σ 1 1 (nI (ps_sk T m y.1))) := fr1.up (by omega)
  refine ⟨_, cl_skip h1 h2 (by omega), f, h1.fr f, bq_up_s, by show ps_sk T m y.1 ≤ m; omega, by rw [bq_up, if_neg (by omega)]; exact h4, by rw [bq_up, if_neg (by omega)]; exact h5, h6.to (fun x z1 z2 => funext fun b => f x b (by omega)), by rw [f i 12 (by omega)]; exact h8⟩
theorem skip_any (hT : tx σ T m) (h : σ 1 1 = nI a) (ha : a ≤ 1001) : ∃ σ', mX7_skipBlanks σ = some σ' ∧ fr1 σ σ' ∧ σ' 1 3 = σ 1 3 ∧ σ' 1 5 = σ 1 5 := by
  by_cases c : a ≤ 1000
  · exact ⟨_, cl_skip hT h c, fr1.up (by omega), by rw [bq_up, if_neg (by omega)], by rw [bq_up, if_neg (by omega)]⟩
  · obtain ⟨n, hn⟩ : ∃ n, bo_fuel = n + 1 := ⟨bo_fuel - 1, by have := bo_fuel_le; omega⟩
    have hm := hT.1
    refine ⟨σ, ?_, fr1.rf, rfl, rfl⟩
    unfold mX7_skipBlanks
    rw [hn]
    simp only [mX7_skipBlanks_L0]
    rw [hT.2.1, h, if_pos (nI_le (by omega) (by omega)), Option.bind_some]
def cl_fin (i : Nat) (T : Nat → Nat) (m : Nat) (σ : bo_M) (R : Option bo_M) : Except (Nat × Nat) PS → Prop
  | .error (c, p) => ∃ σ', R = some σ' ∧ frH i σ σ' ∧ σ' 1 3 = nI c ∧ σ' 1 5 = nI p ∧ 1 ≤ c ∧ c ≤ 4
  | .ok y => ∃ σ', R = some σ' ∧ frH i σ σ' ∧ cr σ' i T m y ∧ ps_env y
theorem cl_fin.fr {R : Option bo_M} {E : Except (Nat × Nat) PS} (h : cl_fin i T m σ' R E) (hs : frH i σ σ') : cl_fin i T m σ R E := by
  cases E with
  | error q =>
    obtain ⟨t, h1, h2, h3⟩ := h
    exact ⟨t, h1, hs.tr h2, h3⟩
  | ok y =>
    obtain ⟨t, h1, h2, h3⟩ := h
    exact ⟨t, h1, hs.tr h2, h3⟩
theorem cl_loop (hi : i = 34 ∨ i = 42) : ∀ (r k n : Nat) (σ : bo_M) (y : PS), k + r = 240 → r < n → k ≤ y.1 → cr σ i T m y → ps_env y → cl_fin i T m σ (mX7_read_L25 i n (nI k) σ) (ps_read T m r y) := by
  intro r
  induction r with
  | zero =>
    intro k n σ y hk hn hky hc hE
    obtain ⟨n, rfl⟩ : ∃ q, n = q + 1 := ⟨n - 1, by omega⟩
    have : k = 240 := by omega
    subst this
    simp only [mX7_read_L25]
    rw [if_pos (show (240 : Int32) ≤ nI 240 from Int32.le_refl _)]
    exact ⟨σ, rfl, frH.rf, hc, hE⟩
  | succ r ih =>
    intro k n σ y hk hn hky hc hE
    obtain ⟨n, rfl⟩ : ∃ q, n = q + 1 := ⟨n - 1, by omega⟩
    have hm := hc.1.1
    have hy := hc.2.2.1
    simp only [mX7_read_L25]
    rw [if_neg (show ¬ (240 : Int32) ≤ nI k from nI_ge (b := 240) (by omega) (by decide)), hc.1.2.1, hc.2.1]
    unfold ps_read
    by_cases c : m ≤ y.1
    · rw [if_pos (nI_le c (by omega)), if_pos c]
      exact ⟨σ, rfl, frH.rf, hc, hE⟩
    · rw [if_neg (nI_ge (by omega) (by omega)), if_pos hc.2.2.2.1, if_neg c]
      have hcl := cl_clause hi hc hE (by omega)
      cases e : ps_clause T m y with
      | error q =>
        obtain ⟨c0, p0⟩ := q
        rw [e] at hcl
        obtain ⟨σ', g1, g2, g3, g4, ⟨g5, g6⟩, a', g7, g8⟩ := hcl
        obtain ⟨σ2, s1, s2, s3, s4⟩ := skip_any (hc.1.frH g2 hi) g7 g8
        obtain ⟨n', hn'⟩ : ∃ n', n = n' + 1 := ⟨n - 1, by omega⟩
        refine ⟨σ2, ?_, g2.tr s2.H, by rw [s3, g3], by rw [s4, g4], g5, g6⟩
        rw [g1, Option.bind_some, s1, Option.bind_some, hn']
        simp only [mX7_read_L25]
        rw [if_neg (show ¬ σ2 1 3 = 0 by rw [s3, g3]; exact fun z => absurd ((bq_eq0 (by omega)).mp z) (by omega))]
        split <;> (try split) <;> rfl
      | ok y' =>
        rw [e] at hcl
        obtain ⟨σ', g1, g2, g3, g4, g5⟩ := hcl
        obtain ⟨σ2, s1, s2, s3⟩ := cr_skip g3 hi
        obtain ⟨k1, k2, k3⟩ := ps_sk_le (T := T) (m := m) (m - y'.1) y'.1 rfl
        rw [g1, Option.bind_some, s1, Option.bind_some, nI_1]
        exact (ih (k + 1) n σ2 (ps_sk T m y'.1, y'.2) (by omega) (by omega) (by show k + 1 ≤ ps_sk T m y'.1; omega) s3 g4).fr (g2.tr s2.H)
end CLREAD
