/-! the class reads a clause -/
section CLAUSE
variable {σ σ' s N : bo_M} {T : Nat → Nat} {m a i D G S X : Nat}
def frH (i : Nat) (σ σ' : bo_M) : Prop := ∀ x b, ¬ (x = 1 ∧ (b = 1 ∨ b = 2 ∨ b = 3 ∨ b = 5)) → ¬ (i ≤ x ∧ x ≤ i + 7) → σ' x b = σ x b
theorem frH.rf : frH i σ σ := fun _ _ _ _ => rfl
theorem frH.tr {τ : bo_M} (h : frH i σ σ') (h2 : frH i σ' τ) : frH i σ τ := fun x b z1 z2 => (h2 x b z1 z2).trans (h x b z1 z2)
theorem fr1.H (h : fr1 σ σ') : frH i σ σ' := fun x b z _ => h x b z
theorem tx.frH (h : tx σ T m) (hs : frH i σ σ') (hi : i = 34 ∨ i = 42) : tx σ' T m := ⟨h.1, by rw [hs 1 4 (by omega) (by omega)]; exact h.2.1, fun k hk => by rw [hs 2 k (by omega) (by omega)]; exact h.2.2 k hk⟩
/-- a write into the house alone -/
def frI (i : Nat) (σ σ' : bo_M) : Prop := ∀ x b, ¬ (i ≤ x ∧ x ≤ i + 7) → σ' x b = σ x b
theorem frI.H (h : frI i σ σ') : frH i σ σ' := fun x b _ z => h x b z
theorem frI.tr {τ : bo_M} (h : frI i σ σ') (h2 : frI i σ' τ) : frI i σ τ := fun x b z => (h2 x b z).trans (h x b z)
/-- after a fault: it stays -/
def Fa (i S : Nat) (T : Nat → Nat) (m : Nat) (K : bo_M → Option bo_M) : Prop := ∀ σ a, tx σ T m → σ 1 1 = nI a → a ≤ 1000 → ¬ σ 1 3 = 0 → σ i 14 = nI S →
  ∃ σ', K σ = some σ' ∧ frH i σ σ' ∧ σ' 1 3 = σ 1 3 ∧ σ' 1 5 = σ 1 5 ∧ ∃ a', σ' 1 1 = nI a' ∧ a' ≤ 1001
/-- a write w into the house, or a note of a fault -/
def kO (i S : Nat) (w : bo_M → Option bo_M) : Prop := ∀ s, ¬ s 1 3 = 0 → s i 14 = nI S → ∃ s', w s = some s' ∧ frI i s s' ∧ s' i 14 = nI S
noncomputable def kW (w : bo_M → Int32 → bo_M → Option bo_M) (lo hi : Int32) (K : Int32 → bo_M → Option bo_M) (σ : bo_M) : Option bo_M :=
  (mX7_readNumber σ lo hi).bind fun x => (w σ x.1 x.2).bind fun s => K x.1 s
noncomputable def kE (f : bo_M → Option bo_M) (σ : bo_M) : Option bo_M := (mX7_endClause σ).bind f
theorem Fa.num {w : bo_M → Int32 → bo_M → Option bo_M} {lo hi : Int32} {K : Int32 → bo_M → Option bo_M} (hi2 : i = 34 ∨ i = 42) (hw : ∀ σ v, kO i S (w σ v)) (hK : ∀ v, Fa i S T m (K v)) : Fa i S T m (kW w lo hi K) := by
  intro σ a hT h ha hf h14
  obtain ⟨v, t, e1, e2, ⟨a1, e3, e4⟩, e5, e6⟩ := cl_numF hT h ha hf lo hi
  obtain ⟨s, f1, f2, f3⟩ := hw σ v t (by rw [e5]; exact hf) (by rw [e2 i 14 (by omega)]; exact h14)
  have g : ∀ b, s 1 b = t 1 b := fun b => f2 1 b (by omega)
  obtain ⟨σ', g1, g2, g3, g4, g5⟩ := hK v s a1 ((hT.fr e2).frH f2.H hi2) (by rw [g]; exact e3) e4 (by rw [g, e5]; exact hf) f3
  refine ⟨σ', ?_, (e2.H.tr f2.H).tr g2, by rw [g3, g, e5], by rw [g4, g, e6], g5⟩
  unfold kW
  rw [e1, Option.bind_some, f1, Option.bind_some, g1]
theorem cl_end (hT : tx σ T m) (h : σ 1 1 = nI a) (ha : a ≤ 1000) : ∃ t, mX7_endClause σ = some t ∧ fr1 σ t ∧ t 1 1 = nI (ps_sk T m a + 1) ∧ ps_sk T m a ≤ 1000 ∧ (¬ σ 1 3 = 0 → t 1 3 = σ 1 3 ∧ t 1 5 = σ 1 5) ∧
    (σ 1 3 = 0 → match ps_end T m a with
      | .error (c, p) => t 1 3 = nI c ∧ t 1 5 = nI p ∧ c = 1
      | .ok a' => t 1 1 = nI a' ∧ a' ≤ m ∧ a < a' ∧ t 1 3 = 0 ∧ t 1 5 = σ 1 5) := by
  have hm := hT.1
  obtain ⟨k1, k2, k3⟩ := ps_sk_le (T := T) (m := m) (m - a) a rfl
  obtain ⟨b, hb⟩ : ∃ b, b = ps_sk T m a := ⟨_, rfl⟩
  obtain ⟨t0, ht0⟩ : ∃ t0, t0 = bo_up σ 1 1 (nI b) := ⟨_, rfl⟩
  have f0 : fr1 σ t0 := by rw [ht0]; exact fr1.up (by omega)
  have t1 : t0 1 1 = nI b := by rw [ht0, bq_up_s]
  have t3 : t0 1 3 = σ 1 3 := by rw [ht0, bq_up, if_neg (by omega)]
  have t5 : t0 1 5 = σ 1 5 := by rw [ht0, bq_up, if_neg (by omega)]
  have hT0 := hT.fr f0
  have e : mX7_endClause σ = some (bo_up (if b < m ∧ T b = 59 then t0 else wr t0 1 (nI b)) 1 1 (nI (b + 1))) := by
    unfold mX7_endClause
    rw [cl_skip hT h ha, Option.bind_some, ← hb, ← ht0, hT0.2.1, t1]
    simp only [cl_wrong, Option.bind_some]
    by_cases c : b < m
    · obtain ⟨x1, x2⟩ := hT0.2.2 b c
      rw [if_neg (nI_ge c (by omega)), bq_at (by omega) (by decide), Option.bind_some, x1]
      by_cases c2 : T b = 59
      · rw [if_pos (by rw [c2]; rfl), if_pos ⟨c, c2⟩, Option.bind_some, t1, nI_1]
      · rw [if_neg (show ¬ nI (T b) = 59 from fun z => c2 ((nI_eq (b := 59) (by omega) (by decide)).mp z)), if_neg (fun z => c2 z.2), Option.bind_some, wr_12 (by omega), t1, nI_1]
    · rw [if_pos (nI_le (by omega) (by omega)), if_neg (fun z => c z.1), Option.bind_some, wr_12 (by omega), t1, nI_1]
  rw [← hb]
  refine ⟨_, e, ?_, bq_up_s, by omega, fun z => ?_, fun z => ?_⟩
  · split
    · exact f0.tr (fr1.up (by omega))
    · exact (f0.tr wr_fr).tr (fr1.up (by omega))
  · rw [wr_no (by rw [t3]; exact z)]
    simp only [ite_self]
    rw [bq_up, if_neg (by omega), bq_up, if_neg (by omega), t3, t5]
    exact ⟨rfl, rfl⟩
  · unfold ps_end
    rw [← hb]
    by_cases c : b < m ∧ T b = 59
    · rw [if_pos c, if_pos c]
      refine ⟨bq_up_s, by omega, by omega, ?_, ?_⟩
      · rw [bq_up, if_neg (by omega), t3, z]
      · rw [bq_up, if_neg (by omega), t5]
    · rw [if_neg c, if_neg c]
      refine ⟨?_, ?_, rfl⟩
      · rw [bq_up, if_neg (by omega), wr_3 (by rw [t3]; exact z)]; rfl
      · rw [bq_up, if_neg (by omega), wr_5 (by rw [t3]; exact z)]
theorem Fa.end_ {f : bo_M → Option bo_M} (hi2 : i = 34 ∨ i = 42) (hf : ∀ s, ¬ s 1 3 = 0 → s i 14 = nI S → ∃ s', f s = some s' ∧ frI i s s') : Fa i S T m (kE f) := by
  intro σ a hT h ha hf0 h14
  obtain ⟨t, e1, e2, e3, e4, e5, -⟩ := cl_end hT h ha
  obtain ⟨e6, e7⟩ := e5 hf0
  obtain ⟨s, f1, f2⟩ := hf t (by rw [e6]; exact hf0) (by rw [e2 i 14 (by omega)]; exact h14)
  have g : ∀ b, s 1 b = t 1 b := fun b => f2 1 b (by omega)
  refine ⟨s, ?_, e2.H.tr f2.H, by rw [g, e6], by rw [g, e7], _, by rw [g]; exact e3, by omega⟩
  unfold kE
  rw [e1, Option.bind_some, f1]
/-- the class has found a fault -/
def bad (i : Nat) (σ : bo_M) (R : Option bo_M) (c p : Nat) : Prop := ∃ σ', R = some σ' ∧ frH i σ σ' ∧ σ' 1 3 = nI c ∧ σ' 1 5 = nI p ∧ (1 ≤ c ∧ c ≤ 4) ∧ ∃ a', σ' 1 1 = nI a' ∧ a' ≤ 1001
theorem bad.fr {R : Option bo_M} {c p : Nat} (h : bad i σ' R c p) (hs : frH i σ σ') : bad i σ R c p := by
  obtain ⟨t, h1, h2, h3⟩ := h
  exact ⟨t, h1, hs.tr h2, h3⟩
theorem Fa.bad {K : bo_M → Option bo_M} (h : Fa i S T m K) (hT : tx σ T m) (h1 : σ 1 1 = nI a) (ha : a ≤ 1000) {c p : Nat} (hc : 1 ≤ c ∧ c ≤ 4) (h3 : σ 1 3 = nI c) (h5 : σ 1 5 = nI p) (h14 : σ i 14 = nI S) : bad i σ (K σ) c p := by
  obtain ⟨σ', g1, g2, g3, g4, g5⟩ := h σ a hT h1 ha (by rw [h3]; exact fun z => absurd ((bq_eq0 (by omega)).mp z) (by omega)) h14
  exact ⟨σ', g1, g2, by rw [g3, h3], by rw [g4, h5], hc, g5⟩
/-- a number that isn't right -/
theorem kW_bad {w : bo_M → Int32 → bo_M → Option bo_M} {K : Int32 → bo_M → Option bo_M} {l u c p : Nat} {lo hi : Int32} (hlo : lo = nI l) (hhi : hi = nI u) (hl : l ≤ 1000) (hu : u ≤ 1000) (hi2 : i = 34 ∨ i = 42) (hw : ∀ σ v, kO i S (w σ v)) (hK : ∀ v, Fa i S T m (K v))
    (hT : tx σ T m) (h : σ 1 1 = nI a) (ha : a ≤ 1000) (hf : σ 1 3 = 0) (h14 : σ i 14 = nI S) (hn : ps_num T m a l u = .error (c, p)) : bad i σ (kW w lo hi K σ) c p := by
  obtain ⟨v, t, e1, e3, e2, ⟨a1, e4, e5⟩, -, e6⟩ := cl_number hT h ha l u hl hu lo hi hlo hhi
  have e7 := e6 hf
  rw [hn] at e7
  obtain ⟨e8, e9, e10⟩ := e7
  obtain ⟨s, f1, f2, f3⟩ := hw σ (nI v) t (by rw [e8]; exact fun z => absurd ((bq_eq0 (by omega)).mp z) (by omega)) (by rw [e2 i 14 (by omega)]; exact h14)
  have g : ∀ b, s 1 b = t 1 b := fun b => f2 1 b (by omega)
  have := ((hK (nI v)).bad (σ := s) (c := c) (p := p) ((hT.fr e2).frH f2.H hi2) (by rw [g]; exact e4) e5 (by omega) (by rw [g]; exact e8) (by rw [g]; exact e9) f3).fr (e2.H.tr f2.H)
  unfold kW
  rw [e1, Option.bind_some, f1, Option.bind_some]
  exact this
/-- a number that is right -/
theorem kW_ok {w : bo_M → Int32 → bo_M → Option bo_M} {K : Int32 → bo_M → Option bo_M} {l u v a' : Nat} {lo hi : Int32} (hlo : lo = nI l) (hhi : hi = nI u) (hl : l ≤ 1000) (hu : u ≤ 1000)
    (hT : tx σ T m) (h : σ 1 1 = nI a) (ha : a ≤ 1000) (hf : σ 1 3 = 0) (hn : ps_num T m a l u = .ok (v, a')) :
    ∃ t, kW w lo hi K σ = ((w σ (nI v) t).bind fun s => K (nI v) s) ∧ fr1 σ t ∧ l ≤ v ∧ v ≤ u ∧ t 1 1 = nI a' ∧ a' ≤ max a m ∧ a < a' ∧ t 1 2 = nI (ps_sk T m a) ∧ t 1 3 = 0 ∧ t 1 5 = σ 1 5 := by
  obtain ⟨v', t, e1, e3, e2, -, -, e6⟩ := cl_number hT h ha l u hl hu lo hi hlo hhi
  have e7 := e6 hf
  rw [hn] at e7
  obtain ⟨rfl, f1, f2, f3, f4, f5, f6, f7, f8⟩ := e7
  exact ⟨t, by unfold kW; rw [e1, Option.bind_some], e2, f1, f2, f3, f4, f5, f6, f7, f8⟩
theorem kE_bad {f : bo_M → Option bo_M} {c p : Nat} (hi2 : i = 34 ∨ i = 42) (hf : ∀ s, ¬ s 1 3 = 0 → s i 14 = nI S → ∃ s', f s = some s' ∧ frI i s s') (hT : tx σ T m) (h : σ 1 1 = nI a) (ha : a ≤ 1000) (h3 : σ 1 3 = 0) (h14 : σ i 14 = nI S) (hn : ps_end T m a = .error (c, p)) : bad i σ (kE f σ) c p := by
  obtain ⟨t, e1, e2, e3, e4, -, e6⟩ := cl_end hT h ha
  have e7 := e6 h3
  rw [hn] at e7
  obtain ⟨e8, e9, rfl⟩ := e7
  obtain ⟨s, f1, f2⟩ := hf t (by rw [e8]; decide) (by rw [e2 i 14 (by omega)]; exact h14)
  have g : ∀ b, s 1 b = t 1 b := fun b => f2 1 b (by omega)
  refine ⟨s, ?_, e2.H.tr f2.H, by rw [g, e8], by rw [g, e9], by omega, _, by rw [g]; exact e3, by omega⟩
  unfold kE
  rw [e1, Option.bind_some, f1]
theorem kE_ok {f : bo_M → Option bo_M} {a' : Nat} (hT : tx σ T m) (h : σ 1 1 = nI a) (ha : a ≤ 1000) (h3 : σ 1 3 = 0) (hn : ps_end T m a = .ok a') : ∃ t, kE f σ = f t ∧ fr1 σ t ∧ t 1 1 = nI a' ∧ a' ≤ m ∧ a < a' ∧ t 1 3 = 0 ∧ t 1 5 = σ 1 5 := by
  obtain ⟨t, e1, e2, e3, e4, -, e6⟩ := cl_end hT h ha
  have e7 := e6 h3
  rw [hn] at e7
  obtain ⟨f1, f2, f3, f4, f5⟩ := e7
  exact ⟨t, by unfold kE; rw [e1, Option.bind_some], e2, f1, f2, f3, f4, f5⟩
theorem cl_start (q : Int32) (h : σ 1 1 = nI a) : mX7_startClause σ q = some (bo_up (if q = 0 then σ else wr σ 3 (nI a)) 1 1 (nI (a + 1))) := by
  unfold mX7_startClause
  rw [h]
  by_cases c : q = 0
  · rw [if_pos c, if_pos c, Option.bind_some, h, nI_1, Option.bind_some]
  · rw [if_neg c, if_neg c, cl_wrong, Option.bind_some, Option.bind_some, wr_12 (by omega), h, nI_1, Option.bind_some]
theorem put_any (n o : Nat) (p v : Int32) (s : bo_M) (hn : n < 2 ^ 31) : ∃ s', mX8_put s n o p v = some s' ∧ ∀ x, x ≠ o → s' x = s x := by
  unfold mX8_put
  by_cases c : p < 0
  · rw [if_pos c]; exact ⟨s, rfl, fun _ _ => rfl⟩
  · rw [if_neg c]
    by_cases c2 : Int32.ofNat n ≤ p
    · rw [if_pos c2]; exact ⟨s, rfl, fun _ _ => rfl⟩
    · rw [if_neg c2]
      obtain ⟨k, rfl, hk⟩ := bq_pos31 (bq_nlt.mp c)
      have : k < n := by
        by_cases z : k < n
        · exact z
        · exact absurd (nI_le (a := n) (b := k) (by omega) hk) c2
      rw [bq_st this hn, Option.bind_some]
      exact ⟨_, rfl, fun x hx => bq_up_o hx⟩
/-- a put into a row of the house -/
theorem kO_put {n o : Nat} {p v : Int32} (ho : i < o ∧ o ≤ i + 7) (hn : n < 2 ^ 31) : kO i S (fun s => mX8_put s n o p v) := by
  intro s _ h14
  obtain ⟨s', h1, h2⟩ := put_any n o p v s hn
  exact ⟨s', h1, fun x b z => by rw [h2 x (by omega)], by rw [h2 i (by omega)]; exact h14⟩
theorem kO_up {b : Nat} {v : Int32} (hb : b ≠ 14) : kO i S (fun s => some (bo_up s i b v)) := by
  intro s _ h14
  exact ⟨_, rfl, fun x c z => by rw [bq_up_o (by omega)], by rw [bq_up, if_neg (by omega)]; exact h14⟩
end CLAUSE
