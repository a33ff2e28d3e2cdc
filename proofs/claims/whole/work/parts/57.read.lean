/-! reading a clause: what both sides read -/
section READ
variable {σ σ' : bo_M} {T : Nat → Nat} {m a i : Nat}
def ps_skn (T : Nat → Nat) (m : Nat) : Nat → Nat → Nat
  | 0, a => a
  | r + 1, a => if T a = 32 then ps_skn T m r (a + 1) else a
/-- the next place that isn't blank -/
def ps_sk (T : Nat → Nat) (m a : Nat) : Nat := ps_skn T m (m - a) a
theorem ps_sk_end (h : m ≤ a) : ps_sk T m a = a := by unfold ps_sk; rw [Nat.sub_eq_zero_of_le h]; rfl
theorem ps_sk_on (h : a < m) (h2 : T a = 32) : ps_sk T m a = ps_sk T m (a + 1) := by
  unfold ps_sk
  rw [show m - a = (m - (a + 1)) + 1 by omega]
  show (if T a = 32 then _ else _) = _
  rw [if_pos h2]
theorem ps_sk_at (h2 : ¬ T a = 32) : ps_sk T m a = a := by
  unfold ps_sk
  cases e : m - a with
  | zero => rfl
  | succ r => exact if_neg h2
theorem ps_sk_le : ∀ (r a : Nat), m - a = r → a ≤ ps_sk T m a ∧ ps_sk T m a ≤ max a m ∧ (ps_sk T m a < m → ¬ T (ps_sk T m a) = 32)
  | 0, a, h => by rw [ps_sk_end (by omega)]; exact ⟨Nat.le_refl _, by omega, fun z => by omega⟩
  | r + 1, a, h => by
    by_cases c : T a = 32
    · rw [ps_sk_on (by omega) c]
      obtain ⟨h1, h2, h3⟩ := ps_sk_le r (a + 1) (by omega)
      exact ⟨by omega, by omega, h3⟩
    · rw [ps_sk_at c]
      exact ⟨Nat.le_refl _, by omega, fun _ => c⟩
theorem ps_sk_sk : ps_sk T m (ps_sk T m a) = ps_sk T m a := by
  obtain ⟨h1, h2, h3⟩ := ps_sk_le (T := T) (m := m) (m - a) a rfl
  by_cases c : ps_sk T m a < m
  · exact ps_sk_at (h3 c)
  · exact ps_sk_end (by omega)
def ps_fig (x : Nat) : Bool := decide (48 ≤ x) && decide (x ≤ 57)
/-- the figures from a on: where they end, how many, what they tell (of the first three) -/
def ps_dg (T : Nat → Nat) : Nat → Nat → Nat → Nat → Nat × Nat × Nat
  | 0, a, k, v => (a, k, v)
  | r + 1, a, k, v => if ps_fig (T a) then ps_dg T r (a + 1) (k + 1) (if 3 < k + 1 then v else v * 10 + T a - 48) else (a, k, v)
theorem ps_dg_le : ∀ (r a k v : Nat), v ≤ 999 → (k < 3 → v ≤ 99) → (k < 2 → v ≤ 9) → (k < 1 → v = 0) → a ≤ (ps_dg T r a k v).1 ∧ (ps_dg T r a k v).1 ≤ a + r ∧ (ps_dg T r a k v).1 - a = (ps_dg T r a k v).2.1 - k ∧ k ≤ (ps_dg T r a k v).2.1 ∧ (ps_dg T r a k v).2.2 ≤ 999
  | 0, a, k, v, h, _, _, _ => ⟨Nat.le_refl _, Nat.le_refl _, by show a - a = k - k; omega, Nat.le_refl _, h⟩
  | r + 1, a, k, v, h, h3, h2, h1 => by
    unfold ps_dg
    by_cases c : ps_fig (T a) = true
    · rw [if_pos c]
      have c' : 48 ≤ T a ∧ T a ≤ 57 := by unfold ps_fig at c; simpa using c
      obtain ⟨i1, i2, i3, i4, i5⟩ := ps_dg_le r (a + 1) (k + 1) (if 3 < k + 1 then v else v * 10 + T a - 48) (by split <;> omega) (fun z => by rw [if_neg (by omega)]; omega) (fun z => by rw [if_neg (by omega)]; omega) (fun z => by omega)
      exact ⟨by omega, by omega, by omega, by omega, i5⟩
    · rw [if_neg c]
      exact ⟨Nat.le_refl _, by omega, by show a - a = k - k; omega, Nat.le_refl _, h⟩
def ps_num (T : Nat → Nat) (m a l h : Nat) : Except (Nat × Nat) (Nat × Nat) :=
  if (ps_dg T (m - ps_sk T m a) (ps_sk T m a) 0 0).2.1 = 0 then .error (1, ps_sk T m a)
  else if 3 < (ps_dg T (m - ps_sk T m a) (ps_sk T m a) 0 0).2.1 ∨ (ps_dg T (m - ps_sk T m a) (ps_sk T m a) 0 0).2.2 < l ∨ h < (ps_dg T (m - ps_sk T m a) (ps_sk T m a) 0 0).2.2 then .error (2, ps_sk T m a)
  else .ok ((ps_dg T (m - ps_sk T m a) (ps_sk T m a) 0 0).2.2, (ps_dg T (m - ps_sk T m a) (ps_sk T m a) 0 0).1)
/-- the end of a clause -/
def ps_end (T : Nat → Nat) (m a : Nat) : Except (Nat × Nat) Nat :=
  if ps_sk T m a < m ∧ T (ps_sk T m a) = 59 then .ok (ps_sk T m a + 1) else .error (1, ps_sk T m a)
/-! the class -/
def tx (σ : bo_M) (T : Nat → Nat) (m : Nat) : Prop := m ≤ 240 ∧ σ 1 4 = nI m ∧ ∀ k, k < m → σ 2 k = nI (T k) ∧ T k ≤ 255
def fr1 (σ σ' : bo_M) : Prop := ∀ x b, ¬ (x = 1 ∧ (b = 1 ∨ b = 2 ∨ b = 3 ∨ b = 5)) → σ' x b = σ x b
theorem fr1.rf : fr1 σ σ := fun _ _ _ => rfl
theorem fr1.tr {τ : bo_M} (h : fr1 σ σ') (h2 : fr1 σ' τ) : fr1 σ τ := fun x b z => (h2 x b z).trans (h x b z)
theorem tx.fr (h : tx σ T m) (hs : fr1 σ σ') : tx σ' T m := ⟨h.1, by rw [hs 1 4 (by omega)]; exact h.2.1, fun k hk => by rw [hs 2 k (by omega)]; exact h.2.2 k hk⟩
theorem fr1.up {b : Nat} {v : Int32} (hb : b = 1 ∨ b = 2 ∨ b = 3 ∨ b = 5) : fr1 σ (bo_up σ 1 b v) := fun x c z => by rw [bq_up, if_neg (by omega)]
theorem cl_skip (hT : tx σ T m) (h : σ 1 1 = nI a) (ha : a ≤ 1000) : mX7_skipBlanks σ = some (bo_up σ 1 1 (nI (ps_sk T m a))) := by
  have key : ∀ r n a σ, tx σ T m → σ 1 1 = nI a → a ≤ 1000 → m - a = r → r < n → mX7_skipBlanks_L0 n σ = some (bo_up σ 1 1 (nI (ps_sk T m a))) := by
    intro r
    induction r with
    | zero =>
      intro n a σ hT h ha hr hn
      obtain ⟨n, rfl⟩ : ∃ q, n = q + 1 := ⟨n - 1, by omega⟩
      simp only [mX7_skipBlanks_L0]
      rw [hT.2.1, h, if_pos (nI_le (by omega) (by omega)), ps_sk_end (by omega), ← h, bq_up_self]
    | succ r ih =>
      intro n a σ hT h ha hr hn
      obtain ⟨n, rfl⟩ : ∃ q, n = q + 1 := ⟨n - 1, by omega⟩
      have hm := hT.1
      obtain ⟨t1, t2⟩ := hT.2.2 a (by omega)
      simp only [mX7_skipBlanks_L0]
      rw [hT.2.1, h, if_neg (nI_ge (by omega) (by omega)), bq_at (by omega) (by decide), Option.bind_some, t1]
      by_cases c : T a = 32
      · rw [if_pos (by rw [c]; rfl), Option.bind_some, nI_1, ih n (a + 1) (bo_up σ 1 1 (nI (a + 1))) (hT.fr (fr1.up (by omega))) bq_up_s (by omega) (by omega) (by omega), ps_sk_on (by omega) c]
        congr 1
        funext x b
        rw [bq_up, bq_up, bq_up]
        by_cases z : x = 1 ∧ b = 1
        · rw [if_pos z, if_pos z]
        · rw [if_neg z, if_neg z, if_neg z]
      · rw [if_neg (show ¬ nI (T a) = 32 from fun z => c ((nI_eq (b := 32) (by omega) (by decide)).mp z)), ps_sk_at c, ← h, bq_up_self]
  unfold mX7_skipBlanks
  have hm := hT.1
  rw [key (m - a) bo_fuel a σ hT h ha rfl (bq_fuel (by omega)), Option.bind_some]
def wr (σ : bo_M) (c p : Int32) : bo_M := if σ 1 3 = 0 then bo_up (bo_up σ 1 3 c) 1 5 p else σ
theorem cl_wrong (c p : Int32) : mX7_wrong σ c p = some (wr σ c p) := by
  unfold mX7_wrong wr
  by_cases z : σ 1 3 = 0
  · rw [if_pos z, if_pos z]; rfl
  · rw [if_neg z, if_neg z]
theorem wr_fr {c p : Int32} : fr1 σ (wr σ c p) := by
  unfold wr
  split
  · exact (fr1.up (by omega)).tr (fr1.up (by omega))
  · exact fr1.rf
theorem wr_12 {c p : Int32} {b : Nat} (hb : b = 1 ∨ b = 2) : wr σ c p 1 b = σ 1 b := by
  unfold wr
  split
  · rw [bq_up, if_neg (by omega), bq_up, if_neg (by omega)]
  · rfl
theorem wr_no {c p : Int32} (h : ¬ σ 1 3 = 0) : wr σ c p = σ := if_neg h
theorem wr_3 {c p : Int32} (h : σ 1 3 = 0) : wr σ c p 1 3 = c := by unfold wr; rw [if_pos h, bq_up, if_neg (by omega), bq_up_s]
theorem wr_5 {c p : Int32} (h : σ 1 3 = 0) : wr σ c p 1 5 = p := by unfold wr; rw [if_pos h, bq_up_s]
theorem cl_fig {x : Nat} (h : x ≤ 255) : mX7_isFigure σ (nI x) = some (if ps_fig x then 1 else 0) := by
  unfold mX7_isFigure ps_fig
  by_cases c1 : x < 48
  · rw [if_pos (show nI x < 48 from nI_lt (b := 48) c1 (by decide))]
    simp [show ¬ 48 ≤ x by omega]
  · rw [if_neg (show ¬ nI x < 48 from nI_nlt (b := 48) (by omega) (by omega))]
    by_cases c2 : 57 < x
    · rw [if_pos (show 57 < nI x from nI_lt (a := 57) c2 (by omega))]
      simp [show ¬ x ≤ 57 by omega]
    · rw [if_neg (show ¬ 57 < nI x from nI_nlt (a := 57) (by omega) (by decide))]
      simp [show 48 ≤ x by omega, show x ≤ 57 by omega]
theorem cl_digits (lo hi : Int32) : ∀ (r n a k v : Nat) (σ : bo_M), tx σ T m → σ 1 1 = nI a → a ≤ 1000 → m - a = r → r < n → k + r ≤ 300 → v ≤ 999 → (k < 3 → v ≤ 99) → (k < 2 → v ≤ 9) → (k < 1 → v = 0) →
    mX7_readNumber_L17 lo hi n (nI k) (nI v) σ = some (nI (ps_dg T r a k v).2.1, nI (ps_dg T r a k v).2.2, bo_up σ 1 1 (nI (ps_dg T r a k v).1)) := by
  intro r
  induction r with
  | zero =>
    intro n a k v σ hT h ha hr hn hk hv h3 h2 h1
    obtain ⟨n, rfl⟩ : ∃ q, n = q + 1 := ⟨n - 1, by omega⟩
    simp only [mX7_readNumber_L17]
    rw [hT.2.1, h, if_pos (nI_le (by omega) (by omega))]
    show _ = some (nI k, nI v, bo_up σ 1 1 (nI a))
    rw [← h, bq_up_self]
  | succ r ih =>
    intro n a k v σ hT h ha hr hn hk hv h3 h2 h1
    obtain ⟨n, rfl⟩ : ∃ q, n = q + 1 := ⟨n - 1, by omega⟩
    have hm := hT.1
    obtain ⟨t1, t2⟩ := hT.2.2 a (by omega)
    simp only [mX7_readNumber_L17]
    rw [hT.2.1, h, if_neg (nI_ge (by omega) (by omega)), bq_at (by omega) (by decide), Option.bind_some, t1, cl_fig t2, Option.bind_some, Option.bind_some]
    unfold ps_dg
    cases c : ps_fig (T a) with
    | false =>
      rw [if_pos (show (if false = true then (1 : Int32) else 0) = 0 from rfl), if_neg (by decide)]
      show _ = some (nI k, nI v, bo_up σ 1 1 (nI a))
      rw [← h, bq_up_self]
    | true =>
      have c' : 48 ≤ T a ∧ T a ≤ 57 := by unfold ps_fig at c; simpa using c
      rw [if_neg (show ¬ (if true = true then (1 : Int32) else 0) = 0 by decide), if_pos rfl, nI_1]
      have e : (if (3 : Int32) < nI (k + 1) then some (nI v) else some ((nI v * 10 + nI (T a)) - 48)) = some (nI (if 3 < k + 1 then v else v * 10 + T a - 48)) := by
        by_cases z : 3 < k + 1
        · rw [if_pos (show 3 < nI (k + 1) from nI_lt (a := 3) z (by omega)), if_pos z]
        · rw [if_neg (show ¬ 3 < nI (k + 1) from nI_nlt (a := 3) (by omega) (by decide)), if_neg z, show (10 : Int32) = nI 10 from rfl, pk_mul, nI_add, show (48 : Int32) = nI 48 from rfl, pk_sub (by omega)]
      rw [e, Option.bind_some, Option.bind_some, nI_1, ih n (a + 1) (k + 1) _ (bo_up σ 1 1 (nI (a + 1))) (hT.fr (fr1.up (by omega))) bq_up_s (by omega) (by omega) (by omega) (by omega) (by split <;> omega) (fun z => by rw [if_neg (by omega)]; omega) (fun z => by rw [if_neg (by omega)]; omega) (fun z => by omega)]
      congr 1
      refine Prod.ext rfl (Prod.ext rfl ?_)
      funext x b
      show bo_up (bo_up σ 1 1 _) 1 1 _ x b = bo_up σ 1 1 _ x b
      rw [bq_up, bq_up, bq_up]
      by_cases z : x = 1 ∧ b = 1
      · rw [if_pos z, if_pos z]
      · rw [if_neg z, if_neg z, if_neg z]
/-- a number, as the class reads it: whatever its bounds -/
theorem cl_numE (hT : tx σ T m) (h : σ 1 1 = nI a) (ha : a ≤ 1000) (lo hi : Int32) : mX7_readNumber σ lo hi = (fun (q : Nat × Nat × Nat) (a1 : Nat) => (Option.bind (α := bo_M) (if nI q.2.1 = 0 then some (wr (bo_up (bo_up (bo_up σ 1 1 (nI a1)) 1 2 (nI a1)) 1 1 (nI q.1)) 1 (nI a1)) else if 3 < nI q.2.1 then some (wr (bo_up (bo_up (bo_up σ 1 1 (nI a1)) 1 2 (nI a1)) 1 1 (nI q.1)) 2 (nI a1)) else if nI q.2.2 < lo then some (wr (bo_up (bo_up (bo_up σ 1 1 (nI a1)) 1 2 (nI a1)) 1 1 (nI q.1)) 2 (nI a1)) else if nI q.2.2 ≤ hi then some (bo_up (bo_up (bo_up σ 1 1 (nI a1)) 1 2 (nI a1)) 1 1 (nI q.1)) else some (wr (bo_up (bo_up (bo_up σ 1 1 (nI a1)) 1 2 (nI a1)) 1 1 (nI q.1)) 2 (nI a1))) fun t => some (nI q.2.2, t))) (ps_dg T (m - ps_sk T m a) (ps_sk T m a) 0 0) (ps_sk T m a) := by
  have hm := hT.1
  obtain ⟨k1, k2, k3⟩ := ps_sk_le (T := T) (m := m) (m - a) a rfl
  obtain ⟨a1, ha1⟩ : ∃ a1, a1 = ps_sk T m a := ⟨_, rfl⟩
  unfold mX7_readNumber
  rw [cl_skip hT h ha, Option.bind_some, Option.bind_some, ← ha1, bq_up_s, show (0 : Int32) = nI 0 from rfl, cl_digits lo hi (m - a1) bo_fuel a1 0 0 (bo_up (bo_up σ 1 1 (nI a1)) 1 2 (nI a1)) ((hT.fr (fr1.up (by omega))).fr (fr1.up (by omega))) (by rw [bq_up, if_neg (by omega), bq_up_s]) (by omega) rfl (bq_fuel (by omega)) (by omega) (by omega) (by omega) (by omega) (fun _ => rfl), Option.bind_some]
  dsimp only
  rw [show bo_up (bo_up (bo_up σ 1 1 (nI a1)) 1 2 (nI a1)) 1 1 (nI (ps_dg T (m - a1) a1 0 0).1) 1 2 = nI a1 from by rw [bq_up, if_neg (by omega), bq_up_s]]
  simp only [cl_wrong, Option.bind_some]
/-- after a fault a number changes neither it nor its place -/
theorem cl_numF (hT : tx σ T m) (h : σ 1 1 = nI a) (ha : a ≤ 1000) (hf : ¬ σ 1 3 = 0) (lo hi : Int32) :
    ∃ v t, mX7_readNumber σ lo hi = some (v, t) ∧ fr1 σ t ∧ (∃ a', t 1 1 = nI a' ∧ a' ≤ 1000) ∧ t 1 3 = σ 1 3 ∧ t 1 5 = σ 1 5 := by
  have hm := hT.1
  obtain ⟨k1, k2, k3⟩ := ps_sk_le (T := T) (m := m) (m - a) a rfl
  have d := ps_dg_le (T := T) (m - ps_sk T m a) (ps_sk T m a) 0 0 (by omega) (by omega) (by omega) (fun _ => rfl)
  obtain ⟨t0, ht0⟩ : ∃ t0, t0 = bo_up (bo_up (bo_up σ 1 1 (nI (ps_sk T m a))) 1 2 (nI (ps_sk T m a))) 1 1 (nI (ps_dg T (m - ps_sk T m a) (ps_sk T m a) 0 0).1) := ⟨_, rfl⟩
  have f0 : fr1 σ t0 := by rw [ht0]; exact ((fr1.up (by omega)).tr (fr1.up (by omega))).tr (fr1.up (by omega))
  have t3 : t0 1 3 = σ 1 3 := by rw [ht0, bq_up, if_neg (by omega), bq_up, if_neg (by omega), bq_up, if_neg (by omega)]
  have t5 : t0 1 5 = σ 1 5 := by rw [ht0, bq_up, if_neg (by omega), bq_up, if_neg (by omega), bq_up, if_neg (by omega)]
  have t1 : t0 1 1 = nI (ps_dg T (m - ps_sk T m a) (ps_sk T m a) 0 0).1 := by rw [ht0, bq_up_s]
  refine ⟨nI (ps_dg T (m - ps_sk T m a) (ps_sk T m a) 0 0).2.2, t0, ?_, f0, ⟨_, t1, by omega⟩, t3, t5⟩
  rw [cl_numE hT h ha lo hi]
  dsimp only
  rw [← ht0]
  simp only [wr_no (show ¬ t0 1 3 = 0 by rw [t3]; exact hf)]
  split <;> (try split) <;> (try split) <;> (try split) <;> rfl
/-- a number, as the class reads it -/
theorem cl_number (hT : tx σ T m) (h : σ 1 1 = nI a) (ha : a ≤ 1000) (l u : Nat) (hl : l ≤ 1000) (hu : u ≤ 1000) (lo hi : Int32) (hlo : lo = nI l) (hhi : hi = nI u) :
    ∃ v t, mX7_readNumber σ lo hi = some (nI v, t) ∧ v ≤ 999 ∧ fr1 σ t ∧ (∃ a', t 1 1 = nI a' ∧ a' ≤ 1000) ∧ (¬ σ 1 3 = 0 → t 1 3 = σ 1 3 ∧ t 1 5 = σ 1 5) ∧
      (σ 1 3 = 0 → match ps_num T m a l u with
        | .error (c, p) => t 1 3 = nI c ∧ t 1 5 = nI p ∧ (c = 1 ∨ c = 2)
        | .ok (w, a') => v = w ∧ l ≤ w ∧ w ≤ u ∧ t 1 1 = nI a' ∧ a' ≤ max a m ∧ a < a' ∧ t 1 2 = nI (ps_sk T m a) ∧ t 1 3 = 0 ∧ t 1 5 = σ 1 5) := by
  subst hlo; subst hhi
  have hm := hT.1
  obtain ⟨k1, k2, k3⟩ := ps_sk_le (T := T) (m := m) (m - a) a rfl
  obtain ⟨a1, ha1⟩ : ∃ a1, a1 = ps_sk T m a := ⟨_, rfl⟩
  have d := ps_dg_le (T := T) (m - a1) a1 0 0 (by omega) (by omega) (by omega) (fun _ => rfl)
  have e : mX7_readNumber σ (nI l) (nI u) = (fun (q : Nat × Nat × Nat) => (Option.bind (α := bo_M) (if nI q.2.1 = 0 then some (wr (bo_up (bo_up (bo_up σ 1 1 (nI a1)) 1 2 (nI a1)) 1 1 (nI q.1)) 1 (nI a1)) else if 3 < nI q.2.1 then some (wr (bo_up (bo_up (bo_up σ 1 1 (nI a1)) 1 2 (nI a1)) 1 1 (nI q.1)) 2 (nI a1)) else if nI q.2.2 < nI l then some (wr (bo_up (bo_up (bo_up σ 1 1 (nI a1)) 1 2 (nI a1)) 1 1 (nI q.1)) 2 (nI a1)) else if nI q.2.2 ≤ nI u then some (bo_up (bo_up (bo_up σ 1 1 (nI a1)) 1 2 (nI a1)) 1 1 (nI q.1)) else some (wr (bo_up (bo_up (bo_up σ 1 1 (nI a1)) 1 2 (nI a1)) 1 1 (nI q.1)) 2 (nI a1))) fun t => some (nI q.2.2, t))) (ps_dg T (m - a1) a1 0 0) := by
    rw [cl_numE hT h ha, ← ha1]
  obtain ⟨q, hq⟩ : ∃ q, q = ps_dg T (m - a1) a1 0 0 := ⟨_, rfl⟩
  rw [← hq] at e d
  obtain ⟨t0, ht0⟩ : ∃ t0, t0 = bo_up (bo_up (bo_up σ 1 1 (nI a1)) 1 2 (nI a1)) 1 1 (nI q.1) := ⟨_, rfl⟩
  dsimp only at e
  rw [← ht0] at e
  have f0 : fr1 σ t0 := by rw [ht0]; exact ((fr1.up (by omega)).tr (fr1.up (by omega))).tr (fr1.up (by omega))
  have t1 : t0 1 1 = nI q.1 := by rw [ht0, bq_up_s]
  have t2 : t0 1 2 = nI a1 := by rw [ht0, bq_up, if_neg (by omega), bq_up_s]
  have t3 : t0 1 3 = σ 1 3 := by rw [ht0, bq_up, if_neg (by omega), bq_up, if_neg (by omega), bq_up, if_neg (by omega)]
  have t5 : t0 1 5 = σ 1 5 := by rw [ht0, bq_up, if_neg (by omega), bq_up, if_neg (by omega), bq_up, if_neg (by omega)]
  have bad : ∀ c : Nat, (c = 1 ∨ c = 2) → ps_num T m a l u = .error (c, a1) → mX7_readNumber σ (nI l) (nI u) = some (nI q.2.2, wr t0 (nI c) (nI a1)) →
      ∃ v t, mX7_readNumber σ (nI l) (nI u) = some (nI v, t) ∧ v ≤ 999 ∧ fr1 σ t ∧ (∃ a', t 1 1 = nI a' ∧ a' ≤ 1000) ∧ (¬ σ 1 3 = 0 → t 1 3 = σ 1 3 ∧ t 1 5 = σ 1 5) ∧
      (σ 1 3 = 0 → match ps_num T m a l u with
        | .error (c, p) => t 1 3 = nI c ∧ t 1 5 = nI p ∧ (c = 1 ∨ c = 2)
        | .ok (w, a') => v = w ∧ l ≤ w ∧ w ≤ u ∧ t 1 1 = nI a' ∧ a' ≤ max a m ∧ a < a' ∧ t 1 2 = nI (ps_sk T m a) ∧ t 1 3 = 0 ∧ t 1 5 = σ 1 5) := by
    intro c hc h1 h2
    refine ⟨q.2.2, _, h2, d.2.2.2.2, f0.tr wr_fr, ⟨q.1, by rw [wr_12 (by omega), t1], by omega⟩, fun z => ?_, fun z => ?_⟩
    · rw [wr_no (by rw [t3]; exact z), t3, t5]; exact ⟨rfl, rfl⟩
    · rw [h1]
      exact ⟨wr_3 (by rw [t3]; exact z), wr_5 (by rw [t3]; exact z), hc⟩
  have hn : ps_num T m a l u = if q.2.1 = 0 then .error (1, a1) else if 3 < q.2.1 ∨ q.2.2 < l ∨ u < q.2.2 then .error (2, a1) else .ok (q.2.2, q.1) := by unfold ps_num; rw [← ha1, ← hq]
  have h240 : q.2.1 ≤ 240 := by omega
  by_cases c1 : q.2.1 = 0
  · exact bad 1 (Or.inl rfl) (by rw [hn, if_pos c1]) (by rw [e, if_pos (by rw [c1]; rfl)]; rfl)
  · rw [if_neg c1] at hn
    rw [if_neg (fun z => c1 ((bq_eq0 (by omega)).mp z))] at e
    by_cases c2 : 3 < q.2.1
    · exact bad 2 (Or.inr rfl) (by rw [hn, if_pos (Or.inl c2)]) (by rw [e, if_pos (show 3 < nI q.2.1 from nI_lt (a := 3) c2 (by omega))]; rfl)
    · rw [if_neg (show ¬ 3 < nI q.2.1 from nI_nlt (a := 3) (by omega) (by decide))] at e
      by_cases c3 : q.2.2 < l
      · exact bad 2 (Or.inr rfl) (by rw [hn, if_pos (Or.inr (Or.inl c3))]) (by rw [e, if_pos (nI_lt c3 (by omega))]; rfl)
      · rw [if_neg (nI_nlt (by omega) (by omega))] at e
        by_cases c4 : q.2.2 ≤ u
        · rw [if_pos (nI_le c4 (by omega)), Option.bind_some] at e
          refine ⟨q.2.2, t0, e, d.2.2.2.2, f0, ⟨q.1, t1, by omega⟩, fun _ => ⟨t3, t5⟩, fun z => ?_⟩
          rw [hn, if_neg (by omega), ← ha1]
          exact ⟨rfl, by omega, c4, t1, by omega, by omega, t2, by rw [t3]; exact z, t5⟩
        · exact bad 2 (Or.inr rfl) (by rw [hn, if_pos (Or.inr (Or.inr (by omega)))]) (by rw [e, if_neg (nI_ge (by omega) (by omega))]; rfl)
end READ
