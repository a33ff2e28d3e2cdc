/-! the reference reads a clause -/
section RFCLAUSE
variable {σ σ' s N : bo_M} {T : Nat → Nat} {m a i D G S X : Nat}
def frQ (σ σ' : bo_M) : Prop := ∀ x b, ¬ (x = 135 ∧ ((20 ≤ b ∧ b ≤ 24) ∨ b = 26 ∨ b = 30 ∨ b = 33 ∨ b = 36)) → ¬ (146 ≤ x ∧ x ≤ 154) → σ' x b = σ x b
theorem frQ.rf : frQ σ σ := fun _ _ _ _ => rfl
theorem frQ.tr {τ : bo_M} (h : frQ σ σ') (h2 : frQ σ' τ) : frQ σ τ := fun x b z1 z2 => (h2 x b z1 z2).trans (h x b z1 z2)
theorem fn.Q (h : fn σ σ') : frQ σ σ' := fun x b z1 _ => h x b (by omega)
theorem ty.Q (h : ty σ T m) (hs : frQ σ σ') : ty σ' T m := h.fr (hs 135 19 (by omega) (by omega)) (fun k => hs 145 k (by omega) (by omega))
def rh (σ : bo_M) (y : PS) : Prop :=
  σ 135 24 &&& 1 = y.2.1 135 0 &&& 1 ∧ (y.2.1 135 0 &&& 1 = 0 → y.2.1 135 1 = 0 ∧ y.2.1 135 2 = 0 ∧ y.2.1 135 3 = 0) ∧ (¬ y.2.1 135 0 &&& 1 = 0 → σ 146 0 = y.2.1 135 1 ∧ σ 146 1 = y.2.1 135 2 ∧ σ 146 2 = y.2.1 135 3) ∧
  σ 135 26 = nI y.2.2.1 ∧ σ 135 33 = nI y.2.2.2.1 ∧ σ 135 36 = nI y.2.2.2.2.1 ∧ σ 135 30 = nI y.2.2.2.2.2 ∧
  (∀ d, d < y.2.2.1 → σ 147 d = y.2.1 136 d ∧ σ 148 d = y.2.1 137 d ∧ σ 149 d = y.2.1 138 d) ∧ (∀ t, t < y.2.2.2.2.2 → σ 150 t = y.2.1 139 t ∧ σ 151 t = y.2.1 140 t) ∧ (∀ g, g < y.2.2.2.1 → σ 152 g = y.2.1 141 g ∧ σ 153 g = y.2.1 142 g) ∧ ∀ s, s < y.2.2.2.2.1 → σ 154 s = y.2.1 143 s
def rr (σ : bo_M) (T : Nat → Nat) (m : Nat) (y : PS) : Prop := ty σ T m ∧ σ 135 21 = nI y.1 ∧ y.1 ≤ m ∧ σ 135 20 = -1 ∧ rh σ y
theorem rh.n {y : PS} (h : rh σ y) (hs : fn σ σ') : rh σ' y := by
  unfold rh
  rw [hs 135 24 (by omega), hs 135 26 (by omega), hs 135 30 (by omega), hs 135 33 (by omega), hs 135 36 (by omega), show σ' 146 = σ 146 from funext fun b => hs 146 b (by omega), show σ' 147 = σ 147 from funext fun b => hs 147 b (by omega), show σ' 148 = σ 148 from funext fun b => hs 148 b (by omega), show σ' 149 = σ 149 from funext fun b => hs 149 b (by omega), show σ' 150 = σ 150 from funext fun b => hs 150 b (by omega), show σ' 151 = σ 151 from funext fun b => hs 151 b (by omega), show σ' 152 = σ 152 from funext fun b => hs 152 b (by omega), show σ' 153 = σ 153 from funext fun b => hs 153 b (by omega), show σ' 154 = σ 154 from funext fun b => hs 154 b (by omega)]
  exact h
def rf_res (T : Nat → Nat) (m : Nat) (σ : bo_M) (R : Option (Int32 × bo_M)) : Except (Nat × Nat) PS → Prop
  | .error (c, p) => ∃ σ', R = some (nI c, σ') ∧ frQ σ σ' ∧ σ' 135 20 = nI p ∧ 1 ≤ c ∧ c ≤ 4
  | .ok y => ∃ σ', R = some (0, σ') ∧ frQ σ σ' ∧ rr σ' T m y
noncomputable def rfin (x : Int32 × bo_M) : Option (Int32 × bo_M) :=
  if x.1 = 0 then (mX11_here x.2).bind fun a8 => if a8.1 = 59 then (some (bo_up a8.2 135 21 ((a8.2 135 21) + 1))).bind fun σ9 => some (x.1, σ9) else (mX11_fails a8.2 1 (a8.2 135 21)).bind fun a10 => some (a10.1, a10.2)
  else (some (bo_up x.2 135 21 ((x.2 135 21) + 1))).bind fun σ7 => some (x.1, σ7)
theorem nz {c : Nat} (h1 : 1 ≤ c) (h4 : c ≤ 4) : ¬ nI c = 0 := fun z => absurd ((bq_eq0 (by omega)).mp z) (by omega)
theorem nz' {c : Nat} (h1 : 1 ≤ c) (h4 : c ≤ 4) : ¬ nI c ≤ 0 := nI_nle (by omega) (by omega)
theorem rfin_bad {c p : Nat} {t : bo_M} (h1 : 1 ≤ c) (h4 : c ≤ 4) (f : frQ σ t) (h : t 135 20 = nI p) : rf_res T m σ (rfin (nI c, t)) (.error (c, p)) := by
  unfold rfin
  rw [if_neg (nz h1 h4), Option.bind_some]
  exact ⟨_, rfl, f.tr ((fn.up (by omega)).Q), by rw [bq_up, if_neg (by omega)]; exact h, h1, h4⟩
theorem rf_end_step {a1 : Nat} {E : Nat → Except (Nat × Nat) PS} (f : frQ σ s) (hT : ty s T m) (h : s 135 21 = nI a1) (ha : a1 ≤ 1000)
    (main : ∀ a2 t, fn s t → t 135 21 = nI a2 → a2 ≤ m → t 135 20 = s 135 20 → rf_res T m σ (some (0, t)) (E a2)) : rf_res T m σ (rfin (0, s)) ((ps_end T m a1).bind E) := by
  have hm := hT.1
  obtain ⟨k1, k2, k3⟩ := ps_sk_le (T := T) (m := m) (m - a1) a1 rfl
  unfold rfin ps_end
  rw [if_pos rfl]
  dsimp only
  rw [rf_here hT h ha, Option.bind_some]
  dsimp only
  rw [bq_up_s]
  have f0 : fn s (bo_up s 135 21 (nI (ps_sk T m a1))) := fn.up (by omega)
  by_cases c : ps_sk T m a1 < m ∧ T (ps_sk T m a1) = 59
  · rw [if_pos c, if_pos c.1, if_pos (show nI (T (ps_sk T m a1)) = 59 by rw [c.2]; rfl), nI_1, Option.bind_some]
    exact main _ _ (f0.tr (fn.up (by omega))) bq_up_s (by omega) (by rw [bq_up, if_neg (by omega), bq_up, if_neg (by omega)])
  · rw [if_neg c]
    have e : ¬ (if ps_sk T m a1 < m then nI (T (ps_sk T m a1)) else -1) = 59 := by
      by_cases z : ps_sk T m a1 < m
      · rw [if_pos z]
        exact fun y => c ⟨z, (nI_eq (b := 59) (by have := (hT.2.2 _ z).2; omega) (by decide)).mp y⟩
      · rw [if_neg z]; decide
    rw [if_neg e, rf_fails, Option.bind_some]
    exact ⟨bo_up (bo_up s 135 21 (nI (ps_sk T m a1))) 135 20 (nI (ps_sk T m a1)), rfl, f.tr (f0.tr (fn.up (by omega))).Q, bq_up_s, by omega, by omega⟩
theorem rf_num_step {K : Int32 × bo_M → Option (Int32 × bo_M)} {E : Nat × Nat → Except (Nat × Nat) PS} {a1 l u : Nat} (hl : l ≤ 1000) (hu : u ≤ 1000) {lo hi : Int32} (hlo : lo = nI l) (hhi : hi = nI u) {n o k : Nat} (hk : k < n) (hn : n < 2 ^ 31) (ho : 146 ≤ o ∧ o ≤ 154) {p : Int32} (hp : p = nI k)
    (hK : ∀ c t, 1 ≤ c → c ≤ 4 → K (nI c, t) = rfin (nI c, t)) (f : frQ σ s) (hT : ty s T m) (h : s 135 21 = nI a1) (ha : a1 ≤ 1000)
    (main : ∀ v a2 t, (∀ x b, ¬ (x = 135 ∧ (b = 20 ∨ b = 21 ∨ b = 22 ∨ b = 23)) → ¬ (x = o ∧ b = k) → t x b = s x b) → t 135 21 = nI a2 → t o k = nI v → t 135 23 = nI (ps_sk T m a1) → t 135 20 = s 135 20 → l ≤ v → v ≤ u → a2 ≤ max a1 m → rf_res T m σ (K (0, t)) (E (v, a2))) :
    rf_res T m σ ((mX11_into s n o p lo hi).bind K) ((ps_num T m a1 l u).bind E) := by
  obtain ⟨c, t, x1, x2, x3⟩ := rf_into hT h ha hl hu hlo hhi hk hn (show o ≠ 135 by omega) hp
  have ft : frQ σ t := f.tr (fun x b z1 z2 => x2 x b (by omega) (by omega))
  rw [x1, Option.bind_some]
  cases e : ps_num T m a1 l u with
  | error q =>
    obtain ⟨c', p'⟩ := q
    rw [e] at x3
    obtain ⟨rfl, y2, y3⟩ := x3
    rw [hK c' t (by omega) (by omega)]
    exact rfin_bad (by omega) (by omega) ft y2
  | ok q =>
    obtain ⟨v, a2⟩ := q
    rw [e] at x3
    obtain ⟨rfl, y2, y3, y4, y5, y6, y7, y8, -⟩ := x3
    exact main v a2 t x2 y2 y3 y4 y5 y6 y7 y8
def rIf (f : bo_M → Option (Int32 × bo_M)) (x : Int32 × bo_M) : Option (Int32 × bo_M) := if x.1 ≤ 0 then f x.2 else some x
theorem rIf_bad {f : bo_M → Option (Int32 × bo_M)} {c : Nat} {t : bo_M} (h1 : 1 ≤ c) (h4 : c ≤ 4) : rIf f (nI c, t) = some (nI c, t) := if_neg (nz' h1 h4)
theorem rIf_ok {f : bo_M → Option (Int32 × bo_M)} {t : bo_M} : rIf f (0, t) = f t := if_pos (Int32.le_refl _)
theorem bq_bp (x : Option (Int32 × bo_M)) : (x.bind fun a => some (a.1, a.2)) = x := by cases x <;> rfl
/-! drinkers -/
theorem rD_is (σ : bo_M) : (mX11_takeDrinker σ).bind rfin = (mX11_into (bo_up σ 135 26 (σ 135 26 + 1)) 7 147 (σ 135 26) 1 40).bind fun x => (rIf (fun s => mX11_into s 7 148 (σ 135 26) 1 20) x).bind fun x => (rIf (fun s => mX11_into s 7 149 (σ 135 26) 0 100) x).bind rfin := by
  unfold mX11_takeDrinker rIf
  simp only [Option.bind_some, bq_bp, Option.bind_assoc]
theorem rf_drinker {y : PS} (hr : rr σ T m y) (c : y.2.2.1 < 7) (hlt : y.1 < m) : rf_res T m σ ((mX11_takeDrinker (bo_up σ 135 21 (nI (y.1 + 1)))).bind rfin) (ps_drinker T m y) := by
  rw [rD_is]
  obtain ⟨a, N, D, G, S, X⟩ := y
  unfold ps_drinker
  obtain ⟨h1, h2, h3, h4, q1, q2, q3, q4, q5, q6, q7, q8, q9, q10, q11⟩ := hr
  dsimp only at h2 h3 q1 q2 q3 q4 q5 q6 q7 q8 q9 q10 q11 c hlt ⊢
  have hm := h1.1
  rw [if_pos c, bq_up, if_neg (by omega), q4, nI_1]
  obtain ⟨s0, hs0⟩ : ∃ s0, s0 = bo_up (bo_up σ 135 21 (nI (a + 1))) 135 26 (nI (D + 1)) := ⟨_, rfl⟩
  rw [← hs0]
  have f0 : frQ σ s0 := fun x b z1 z2 => by rw [hs0, bq_up, if_neg (by omega), bq_up, if_neg (by omega)]
  have r0 : ∀ x b, ¬ (x = 135 ∧ (b = 21 ∨ b = 26)) → s0 x b = σ x b := fun x b z => by rw [hs0, bq_up, if_neg (by omega), bq_up, if_neg (by omega)]
  refine rf_num_step (l := 1) (u := 40) (by omega) (by omega) rfl rfl c (by decide) (by omega) rfl (fun c t z1 z2 => by rw [rIf_bad z1 z2, Option.bind_some, rIf_bad z1 z2, Option.bind_some]) f0 (h1.Q f0) (by rw [hs0, bq_up, if_neg (by omega), bq_up_s]) (by omega) (fun v1 a1 t1 w1 w2 w3 _ w5 w6 w7 w8 => ?_)
  rw [rIf_ok]
  have f1 : frQ σ t1 := f0.tr (fun x b z1 z2 => w1 x b (by omega) (by omega))
  refine rf_num_step (l := 1) (u := 20) (by omega) (by omega) rfl rfl c (by decide) (by omega) rfl (fun c t z1 z2 => by rw [rIf_bad z1 z2, Option.bind_some]) f1 (h1.Q f1) w2 (by omega) (fun v2 a2 t2 x1 x2 x3 _ x5 x6 x7 x8 => ?_)
  rw [rIf_ok]
  have f2 : frQ σ t2 := f1.tr (fun x b z1 z2 => x1 x b (by omega) (by omega))
  refine rf_num_step (l := 0) (u := 100) (by omega) (by omega) rfl rfl c (by decide) (by omega) rfl (fun c t z1 z2 => rfl) f2 (h1.Q f2) x2 (by omega) (fun v3 a3 t3 y1 y2 y3 _ y5 y6 y7 y8 => ?_)
  have f3 : frQ σ t3 := f2.tr (fun x b z1 z2 => y1 x b (by omega) (by omega))
  refine rf_end_step f3 (h1.Q f3) y2 (by omega) (fun a4 t4 z1 z2 z3 z4 => ?_)
  have ro : ∀ x b, ¬ (x = 135 ∧ ((20 ≤ b ∧ b ≤ 23) ∨ b = 26)) → ¬ (x = 147 ∧ b = D) → ¬ (x = 148 ∧ b = D) → ¬ (x = 149 ∧ b = D) → t4 x b = σ x b := fun x b k1 k2 k3 k4 => by
    rw [z1 x b (by omega), y1 x b (by omega) (by omega), x1 x b (by omega) (by omega), w1 x b (by omega) (by omega), r0 x b (by omega)]
  refine ⟨t4, rfl, f3.tr z1.Q, h1.Q (f3.tr z1.Q), z2, z3, ?_, ?_, ?_, ?_, ?_, ?_, ?_, ?_, fun d hd => ?_, fun d hd => ?_, fun d hd => ?_, fun d hd => ?_⟩
  · rw [z4, y5, x5, w5, r0 135 20 (by omega)]; exact h4
  · rw [ro 135 24 (by omega) (by omega) (by omega) (by omega)]; simpa [bq_up] using q1
  · simpa [bq_up] using q2
  · rw [ro 146 0 (by omega) (by omega) (by omega) (by omega), ro 146 1 (by omega) (by omega) (by omega) (by omega), ro 146 2 (by omega) (by omega) (by omega) (by omega)]; simpa [bq_up] using q3
  · rw [z1 135 26 (by omega), y1 135 26 (by omega) (by omega), x1 135 26 (by omega) (by omega), w1 135 26 (by omega) (by omega), hs0, bq_up_s]
  · rw [ro 135 33 (by omega) (by omega) (by omega) (by omega)]; exact q5
  · rw [ro 135 36 (by omega) (by omega) (by omega) (by omega)]; exact q6
  · rw [ro 135 30 (by omega) (by omega) (by omega) (by omega)]; exact q7
  · by_cases k : d = D
    · subst k
      refine ⟨?_, ?_, ?_⟩
      · rw [z1 147 d (by omega), y1 147 d (by omega) (by omega), x1 147 d (by omega) (by omega), w3]; simp [bq_up]
      · rw [z1 148 d (by omega), y1 148 d (by omega) (by omega), x3]; simp [bq_up]
      · rw [z1 149 d (by omega), y3]; simp [bq_up]
    · have h' := q8 d (show d < D by dsimp only at hd; omega)
      rw [ro 147 d (by omega) (by omega) (by omega) (by omega), ro 148 d (by omega) (by omega) (by omega) (by omega), ro 149 d (by omega) (by omega) (by omega) (by omega)]
      simpa [bq_up, k] using h'
  · rw [ro 150 d (by omega) (by omega) (by omega) (by omega), ro 151 d (by omega) (by omega) (by omega) (by omega)]
    simpa [bq_up] using q9 d hd
  · rw [ro 152 d (by omega) (by omega) (by omega) (by omega), ro 153 d (by omega) (by omega) (by omega) (by omega)]
    simpa [bq_up] using q10 d hd
  · rw [ro 154 d (by omega) (by omega) (by omega) (by omega)]
    simpa [bq_up] using q11 d hd
end RFCLAUSE
