/-! the reference reads: places and numbers -/
section RFREAD
variable {σ σ' s N : bo_M} {T : Nat → Nat} {m a i D G S X : Nat}
def ty (σ : bo_M) (T : Nat → Nat) (m : Nat) : Prop := m ≤ 240 ∧ σ 135 19 = nI m ∧ ∀ k, k < m → σ 145 k = nI (T k) ∧ T k ≤ 255
/-- only the reading's numbers changed -/
def fn (σ σ' : bo_M) : Prop := ∀ x b, ¬ (x = 135 ∧ (b = 20 ∨ b = 21 ∨ b = 22 ∨ b = 23)) → σ' x b = σ x b
theorem fn.rf : fn σ σ := fun _ _ _ => rfl
theorem fn.tr {τ : bo_M} (h : fn σ σ') (h2 : fn σ' τ) : fn σ τ := fun x b z => (h2 x b z).trans (h x b z)
theorem fn.up {b : Nat} {v : Int32} (hb : b = 20 ∨ b = 21 ∨ b = 22 ∨ b = 23) : fn σ (bo_up σ 135 b v) := fun x c z => by rw [bq_up, if_neg (by omega)]
theorem ty.fr (h : ty σ T m) (h2 : σ' 135 19 = σ 135 19) (h3 : ∀ k, σ' 145 k = σ 145 k) : ty σ' T m := ⟨h.1, by rw [h2]; exact h.2.1, fun k hk => by rw [h3]; exact h.2.2 k hk⟩
theorem ty.n (h : ty σ T m) (hs : fn σ σ') : ty σ' T m := h.fr (hs 135 19 (by omega)) (fun k => hs 145 k (by omega))
theorem rf_here (hT : ty σ T m) (h : σ 135 21 = nI a) (ha : a ≤ 1000) : mX11_here σ = some (if ps_sk T m a < m then nI (T (ps_sk T m a)) else -1, bo_up σ 135 21 (nI (ps_sk T m a))) := by
  have key : ∀ r n a σ, ty σ T m → σ 135 21 = nI a → a ≤ 1000 → m - a = r → r < n → mX11_here_L0 n σ = some (bo_up σ 135 21 (nI (ps_sk T m a))) := by
    intro r
    induction r with
    | zero =>
      intro n a σ hT h ha hr hn
      obtain ⟨n, rfl⟩ : ∃ q, n = q + 1 := ⟨n - 1, by omega⟩
      simp only [mX11_here_L0]
      rw [hT.2.1, h, if_pos (nI_le (by omega) (by omega)), ps_sk_end (by omega), ← h, bq_up_self]
    | succ r ih =>
      intro n a σ hT h ha hr hn
      obtain ⟨n, rfl⟩ : ∃ q, n = q + 1 := ⟨n - 1, by omega⟩
      have hm := hT.1
      obtain ⟨t1, t2⟩ := hT.2.2 a (by omega)
      simp only [mX11_here_L0]
      rw [hT.2.1, h, if_neg (nI_ge (by omega) (by omega)), bq_ld (by omega) (by decide), Option.bind_some, t1]
      by_cases c : T a = 32
      · rw [if_pos (by rw [c]; rfl), Option.bind_some, nI_1, ih n (a + 1) (bo_up σ 135 21 (nI (a + 1))) (hT.n (fn.up (by omega))) bq_up_s (by omega) (by omega) (by omega), ps_sk_on (by omega) c]
        congr 1
        funext x b
        rw [bq_up, bq_up, bq_up]
        by_cases z : x = 135 ∧ b = 21
        · rw [if_pos z, if_pos z]
        · rw [if_neg z, if_neg z, if_neg z]
      · rw [if_neg (show ¬ nI (T a) = 32 from fun z => c ((nI_eq (b := 32) (by omega) (by decide)).mp z)), ps_sk_at c, ← h, bq_up_self]
  have hm := hT.1
  obtain ⟨k1, k2, k3⟩ := ps_sk_le (T := T) (m := m) (m - a) a rfl
  unfold mX11_here
  rw [key (m - a) bo_fuel a σ hT h ha rfl (bq_fuel (by omega)), Option.bind_some, (hT.n (fn.up (b := 21) (v := nI (ps_sk T m a)) (by omega))).2.1, bq_up_s]
  by_cases c : ps_sk T m a < m
  · rw [if_neg (nI_ge c (by omega)), if_pos c, bq_ld (by omega) (by decide), Option.bind_some, bq_up_o (by decide), (hT.2.2 _ c).1]
  · rw [if_pos (nI_le (by omega) (by omega)), if_neg c]
theorem rf_fig {x : Nat} (h : x ≤ 255) : (48 ≤ nI x ∧ nI x ≤ 57) = (ps_fig x = true) := by
  unfold ps_fig
  apply propext
  constructor
  · intro ⟨h1, h2⟩
    have a1 : 48 ≤ x := by
      by_cases z : 48 ≤ x
      · exact z
      · exact absurd h1 (nI_ge (b := 48) (by omega) (by decide))
    have a2 : x ≤ 57 := by
      by_cases z : x ≤ 57
      · exact z
      · exact absurd h2 (nI_ge (a := 57) (by omega) (by omega))
    simp [a1, a2]
  · intro h1
    have h2 : 48 ≤ x ∧ x ≤ 57 := by simpa using h1
    exact ⟨nI_le (a := 48) h2.1 (by omega), nI_le (b := 57) h2.2 (by decide)⟩
theorem rf_digits (lo hi : Int32) : ∀ (r n a k v w : Nat) (σ : bo_M), ty σ T m → σ 135 21 = nI a → a ≤ 1000 → m - a = r → r < n → σ 135 22 = nI w → w ≤ 100009 → (k ≤ 3 → w = v) → v ≤ 999 → (k < 3 → v ≤ 99) → (k < 2 → v ≤ 9) → (k < 1 → v = 0) →
    ∃ t w', mX11_takeNumber_L42 lo hi n σ = some t ∧ (∀ x b, ¬ (x = 135 ∧ (b = 21 ∨ b = 22)) → t x b = σ x b) ∧ t 135 21 = nI (ps_dg T r a k v).1 ∧ t 135 22 = nI w' ∧ w' ≤ 100009 ∧ ((ps_dg T r a k v).2.1 ≤ 3 → w' = (ps_dg T r a k v).2.2) := by
  intro r
  induction r with
  | zero =>
    intro n a k v w σ hT h ha hr hn hw hw2 hk hv h3 h2 h1
    obtain ⟨n, rfl⟩ : ∃ q, n = q + 1 := ⟨n - 1, by omega⟩
    refine ⟨σ, w, ?_, fun _ _ _ => rfl, h, hw, hw2, hk⟩
    simp only [mX11_takeNumber_L42]
    rw [hT.2.1, h, if_pos (nI_le (by omega) (by omega))]
  | succ r ih =>
    intro n a k v w σ hT h ha hr hn hw hw2 hk hv h3 h2 h1
    obtain ⟨n, rfl⟩ : ∃ q, n = q + 1 := ⟨n - 1, by omega⟩
    have hm := hT.1
    obtain ⟨t1, t2⟩ := hT.2.2 a (by omega)
    simp only [mX11_takeNumber_L42]
    rw [hT.2.1, h, if_neg (nI_ge (by omega) (by omega)), bq_ld (by omega) (by decide), Option.bind_some, t1, rf_in (b := 48) (c := 57) (by decide +kernel) (by decide +kernel), Option.bind_some, hw]
    simp only [rf_fig t2]
    unfold ps_dg
    cases c : ps_fig (T a) with
    | false =>
      rw [if_pos (show (if false = true then (1 : Int32) else 0) = 0 from rfl), if_neg (by decide)]
      exact ⟨σ, w, rfl, fun _ _ _ => rfl, h, hw, hw2, hk⟩
    | true =>
      have c' : 48 ≤ T a ∧ T a ≤ 57 := by unfold ps_fig at c; simpa using c
      rw [if_neg (show ¬ (if true = true then (1 : Int32) else 0) = 0 by decide), if_pos rfl, Option.bind_some]
      obtain ⟨w1, hw1⟩ : ∃ w1, w1 = if w ≤ 10000 then 10 * w + T a - 48 else w := ⟨_, rfl⟩
      have e : (if nI w ≤ 10000 then some ((10 * nI w + nI (T a)) - 48) else some (nI w)) = some (nI w1) := by
        rw [hw1]
        by_cases z : w ≤ 10000
        · rw [if_pos (show nI w ≤ 10000 from nI_le (b := 10000) z (by decide)), if_pos z, show (10 : Int32) = nI 10 from rfl, pk_mul, nI_add, show (48 : Int32) = nI 48 from rfl, pk_sub (by omega)]
        · rw [if_neg (show ¬ nI w ≤ 10000 from nI_ge (a := 10000) (by omega) (by omega)), if_neg z]
      rw [e, Option.bind_some, Option.bind_some, Option.bind_some, bq_up, if_neg (by omega), h, nI_1]
      obtain ⟨s1, hs1⟩ : ∃ s1, s1 = bo_up (bo_up σ 135 22 (nI w1)) 135 21 (nI (a + 1)) := ⟨_, rfl⟩
      rw [← hs1]
      have f1 : ∀ x b, ¬ (x = 135 ∧ (b = 21 ∨ b = 22)) → s1 x b = σ x b := fun x b z => by rw [hs1, bq_up, if_neg (by omega), bq_up, if_neg (by omega)]
      obtain ⟨t, w', x1, x2, x3, x4, x5, x6⟩ := ih n (a + 1) (k + 1) (if 3 < k + 1 then v else v * 10 + T a - 48) w1 s1 (hT.fr (f1 135 19 (by omega)) (fun k => f1 145 k (by omega))) (by rw [hs1, bq_up_s]) (by omega) (by omega) (by omega) (by rw [hs1, bq_up, if_neg (by omega), bq_up_s]) (by rw [hw1]; split <;> omega) (fun z => by
        have := hk (by omega)
        rw [hw1, if_pos (by omega), if_neg (by omega)]
        omega) (by split <;> omega) (fun z => by rw [if_neg (by omega)]; omega) (fun z => by rw [if_neg (by omega)]; omega) (fun z => by omega)
      exact ⟨t, w', x1, fun x b z => by rw [x2 x b z, f1 x b z], x3, x4, x5, x6⟩
theorem rf_fails (σ : bo_M) (c p : Int32) : mX11_fails σ c p = some (c, bo_up σ 135 20 p) := rfl
theorem rf_number (hT : ty σ T m) (h : σ 135 21 = nI a) (ha : a ≤ 1000) {l u : Nat} (hl : l ≤ 1000) (hu : u ≤ 1000) {lo hi : Int32} (hlo : lo = nI l) (hhi : hi = nI u) :
    ∃ c t, mX11_takeNumber σ lo hi = some (c, t) ∧ fn σ t ∧ match ps_num T m a l u with
      | .error (e, p) => c = nI e ∧ t 135 20 = nI p ∧ (e = 1 ∨ e = 2)
      | .ok (v, a') => c = 0 ∧ t 135 21 = nI a' ∧ t 135 22 = nI v ∧ t 135 23 = nI (ps_sk T m a) ∧ t 135 20 = σ 135 20 ∧ l ≤ v ∧ v ≤ u ∧ a' ≤ max a m ∧ a < a' := by
  subst hlo; subst hhi
  have hm := hT.1
  obtain ⟨k1, k2, k3⟩ := ps_sk_le (T := T) (m := m) (m - a) a rfl
  unfold mX11_takeNumber
  rw [rf_here hT h ha, Option.bind_some]
  dsimp only
  rw [rf_in (b := 48) (c := 57) (by decide +kernel) (by decide +kernel), Option.bind_some]
  obtain ⟨a1, ha1⟩ : ∃ a1, a1 = ps_sk T m a := ⟨_, rfl⟩
  rw [← ha1]
  obtain ⟨s0, hs0⟩ : ∃ s0, s0 = bo_up σ 135 21 (nI a1) := ⟨_, rfl⟩
  rw [← hs0]
  have f0 : fn σ s0 := by rw [hs0]; exact fn.up (by omega)
  have g21 : s0 135 21 = nI a1 := by rw [hs0, bq_up_s]
  have g20 : s0 135 20 = σ 135 20 := by rw [hs0, bq_up, if_neg (by omega)]
  have hn : ps_num T m a l u = if (ps_dg T (m - a1) a1 0 0).2.1 = 0 then .error (1, a1) else if 3 < (ps_dg T (m - a1) a1 0 0).2.1 ∨ (ps_dg T (m - a1) a1 0 0).2.2 < l ∨ u < (ps_dg T (m - a1) a1 0 0).2.2 then .error (2, a1) else .ok ((ps_dg T (m - a1) a1 0 0).2.2, (ps_dg T (m - a1) a1 0 0).1) := by unfold ps_num; rw [← ha1]
  have d := ps_dg_le (T := T) (m - a1) a1 0 0 (by omega) (by omega) (by omega) (fun _ => rfl)
  have nofig : (¬ (48 ≤ (if a1 < m then nI (T a1) else -1) ∧ (if a1 < m then nI (T a1) else -1) ≤ 57)) = ((ps_dg T (m - a1) a1 0 0).2.1 = 0) := by
    by_cases c : a1 < m
    · simp only [if_pos c, rf_fig (hT.2.2 a1 c).2]
      obtain ⟨r, hr⟩ : ∃ r, m - a1 = r + 1 := ⟨m - a1 - 1, by omega⟩
      have d' := ps_dg_le (T := T) r (a1 + 1) (0 + 1) (if 3 < 0 + 1 then 0 else 0 * 10 + T a1 - 48)
      rw [hr]
      unfold ps_dg
      cases cf : ps_fig (T a1) with
      | false => simp
      | true =>
        have c' : 48 ≤ T a1 ∧ T a1 ≤ 57 := by unfold ps_fig at cf; simpa using cf
        obtain ⟨-, -, -, d4, -⟩ := d' (by rw [if_neg (by omega)]; omega) (fun z => by rw [if_neg (by omega)]; omega) (fun z => by rw [if_neg (by omega)]; omega) (fun z => by omega)
        apply propext
        constructor
        · intro z; exact absurd rfl z
        · intro z
          rw [if_pos rfl] at z
          omega
    · simp only [if_neg c]
      rw [Nat.sub_eq_zero_of_le (by omega)]
      apply propext
      constructor
      · intro _; rfl
      · intro _ z; exact absurd z.1 (by decide)
  by_cases c1 : (ps_dg T (m - a1) a1 0 0).2.1 = 0
  · rw [hn, if_pos c1]
    have := c1
    rw [← nofig] at this
    rw [if_neg this, if_pos bq_00, rf_fails, Option.bind_some, g21]
    exact ⟨1, bo_up s0 135 20 (nI a1), rfl, f0.tr (fn.up (by omega)), rfl, bq_up_s, Or.inl rfl⟩
  · have c1' : 48 ≤ (if a1 < m then nI (T a1) else -1) ∧ (if a1 < m then nI (T a1) else -1) ≤ 57 := by
      have := c1
      rw [← nofig] at this
      exact Classical.not_not.mp this
    rw [hn, if_neg c1, if_pos c1', if_neg bq_10, Option.bind_some, Option.bind_some, g21]
    obtain ⟨s1, hs1⟩ : ∃ s1, s1 = bo_up (bo_up s0 135 23 (nI a1)) 135 22 0 := ⟨_, rfl⟩
    rw [← hs1]
    have f1 : fn σ s1 := by rw [hs1]; exact (f0.tr (fn.up (by omega))).tr (fn.up (by omega))
    obtain ⟨t, w', x1, x2, x3, x4, x5, x6⟩ := rf_digits (nI l) (nI u) (m - a1) bo_fuel a1 0 0 0 s1 (hT.n f1) (by rw [hs1, bq_up, if_neg (by omega), bq_up, if_neg (by omega), g21]) (by omega) rfl (bq_fuel (by omega)) (by rw [hs1, bq_up_s]; rfl) (by omega) (fun _ => rfl) (by omega) (by omega) (by omega) (fun _ => rfl)
    have t23 : t 135 23 = nI a1 := by rw [x2 135 23 (by omega), hs1, bq_up, if_neg (by omega), bq_up_s]
    have t20 : t 135 20 = σ 135 20 := by rw [x2 135 20 (by omega), hs1, bq_up, if_neg (by omega), bq_up, if_neg (by omega), g20]
    have ft : fn σ t := fun x b z => by rw [x2 x b (by omega), f1 x b z]
    rw [x1, Option.bind_some, x3, t23, pk_sub (by omega), show (ps_dg T (m - a1) a1 0 0).1 - a1 = (ps_dg T (m - a1) a1 0 0).2.1 by omega]
    by_cases c2 : 3 < (ps_dg T (m - a1) a1 0 0).2.1
    · rw [if_pos (show 3 < nI (ps_dg T (m - a1) a1 0 0).2.1 from nI_lt (a := 3) c2 (by omega)), if_pos (Or.inl c2), rf_fails, Option.bind_some]
      exact ⟨2, bo_up t 135 20 (nI a1), rfl, ft.tr (fn.up (by omega)), rfl, bq_up_s, Or.inr rfl⟩
    · have x7 := x6 (by omega)
      rw [if_neg (show ¬ 3 < nI (ps_dg T (m - a1) a1 0 0).2.1 from nI_nlt (a := 3) (by omega) (by decide)), rf_in (b := nI l) (c := nI u) rfl rfl, Option.bind_some, x4, x7]
      by_cases c3 : l ≤ (ps_dg T (m - a1) a1 0 0).2.2 ∧ (ps_dg T (m - a1) a1 0 0).2.2 ≤ u
      · rw [if_pos (show nI l ≤ nI (ps_dg T (m - a1) a1 0 0).2.2 ∧ nI (ps_dg T (m - a1) a1 0 0).2.2 ≤ nI u from ⟨nI_le c3.1 (by omega), nI_le c3.2 (by omega)⟩), if_neg bq_10, if_neg (by omega)]
        exact ⟨_, _, rfl, ft, rfl, x3, by rw [x4, x7], by rw [t23], t20, c3.1, c3.2, by omega, by omega⟩
      · rw [if_neg (show ¬ (nI l ≤ nI (ps_dg T (m - a1) a1 0 0).2.2 ∧ nI (ps_dg T (m - a1) a1 0 0).2.2 ≤ nI u) from fun z => by
          by_cases z1 : l ≤ (ps_dg T (m - a1) a1 0 0).2.2
          · exact absurd z.2 (nI_ge (by omega) (by omega))
          · exact absurd z.1 (nI_ge (by omega) (by omega))), if_pos bq_00, if_pos (by omega), rf_fails, Option.bind_some]
        exact ⟨2, bo_up t 135 20 (nI a1), rfl, ft.tr (fn.up (by omega)), rfl, bq_up_s, Or.inr rfl⟩
/-- a number into its row -/
theorem rf_into (hT : ty σ T m) (h : σ 135 21 = nI a) (ha : a ≤ 1000) {l u : Nat} (hl : l ≤ 1000) (hu : u ≤ 1000) {lo hi : Int32} (hlo : lo = nI l) (hhi : hi = nI u) {n o k : Nat} (hk : k < n) (hn : n < 2 ^ 31) (ho : o ≠ 135) {p : Int32} (hp : p = nI k) :
    ∃ c t, mX11_into σ n o p lo hi = some (c, t) ∧ (∀ x b, ¬ (x = 135 ∧ (b = 20 ∨ b = 21 ∨ b = 22 ∨ b = 23)) → ¬ (x = o ∧ b = k) → t x b = σ x b) ∧ match ps_num T m a l u with
      | .error (e, p) => c = nI e ∧ t 135 20 = nI p ∧ (e = 1 ∨ e = 2)
      | .ok (v, a') => c = 0 ∧ t 135 21 = nI a' ∧ t o k = nI v ∧ t 135 23 = nI (ps_sk T m a) ∧ t 135 20 = σ 135 20 ∧ l ≤ v ∧ v ≤ u ∧ a' ≤ max a m ∧ a < a' := by
  subst hp
  obtain ⟨c, t, x1, x2, x3⟩ := rf_number hT h ha hl hu hlo hhi
  refine ⟨c, bo_up t o k (t 135 22), ?_, fun x b z1 z2 => by rw [bq_up, if_neg z2, x2 x b z1], ?_⟩
  · unfold mX11_into
    rw [x1, Option.bind_some, bq_st hk hn, Option.bind_some]
  · cases e : ps_num T m a l u with
    | error q =>
      rw [e] at x3
      obtain ⟨y1, y2, y3⟩ := x3
      exact ⟨y1, by rw [bq_up_o (Ne.symm ho)]; exact y2, y3⟩
    | ok q =>
      rw [e] at x3
      obtain ⟨y1, y2, y3, y4, y5, y6⟩ := x3
      exact ⟨y1, by rw [bq_up_o (Ne.symm ho)]; exact y2, by rw [bq_up_s]; exact y3, by rw [bq_up_o (Ne.symm ho)]; exact y4, by rw [bq_up_o (Ne.symm ho)]; exact y5, y6⟩
end RFREAD
