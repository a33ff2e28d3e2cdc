/-! the five clauses, by the class -/
section CLAUSES
variable {σ σ' s N : bo_M} {T : Nat → Nat} {m a i D G S X : Nat}
/-- position, INN, its numbers -/
abbrev PS : Type := Nat × bo_M × Nat × Nat × Nat × Nat
def ps_bell (T : Nat → Nat) (m : Nat) (y : PS) : Except (Nat × Nat) PS :=
  if y.2.1 135 0 &&& 1 = 0 then
    (ps_num T m (y.1 + 1) 0 1).bind fun x1 => (ps_num T m x1.2 0 9).bind fun x2 => (ps_num T m x2.2 0 127).bind fun x3 => (ps_end T m x3.2).bind fun e =>
    .ok (e, bo_up (bo_up (bo_up (bo_up y.2.1 135 0 1) 135 1 (nI x1.1)) 135 2 (nI x2.1)) 135 3 (nI x3.1), y.2.2.1, y.2.2.2.1, y.2.2.2.2.1, y.2.2.2.2.2)
  else .error (3, y.1)
def ps_drinker (T : Nat → Nat) (m : Nat) (y : PS) : Except (Nat × Nat) PS :=
  if y.2.2.1 < 7 then
    (ps_num T m (y.1 + 1) 1 40).bind fun x1 => (ps_num T m x1.2 1 20).bind fun x2 => (ps_num T m x2.2 0 100).bind fun x3 => (ps_end T m x3.2).bind fun e =>
    .ok (e, bo_up (bo_up (bo_up (bo_up y.2.1 136 y.2.2.1 (nI x1.1)) 137 y.2.2.1 (nI x2.1)) 138 y.2.2.1 (nI x3.1)) 135 4 (nI (y.2.2.1 + 1)), y.2.2.1 + 1, y.2.2.2.1, y.2.2.2.2.1, y.2.2.2.2.2)
  else .error (3, y.1)
def ps_goer (T : Nat → Nat) (m : Nat) (y : PS) : Except (Nat × Nat) PS :=
  if y.2.2.2.1 < 6 then
    (ps_num T m (y.1 + 1) 0 95).bind fun x1 => (ps_num T m x1.2 0 40).bind fun x2 => (ps_end T m x2.2).bind fun e =>
    .ok (e, bo_up (bo_up (bo_up y.2.1 141 y.2.2.2.1 (nI x1.1)) 142 y.2.2.2.1 (nI x2.1)) 135 11 (nI (y.2.2.2.1 + 1)), y.2.2.1, y.2.2.2.1 + 1, y.2.2.2.2.1, y.2.2.2.2.2)
  else .error (3, y.1)
def ps_signal (T : Nat → Nat) (m : Nat) (y : PS) : Except (Nat × Nat) PS :=
  if y.2.2.2.2.1 < 5 then
    (ps_num T m (y.1 + 1) 1 16).bind fun x1 => if sp_any (fun k => decide (y.2.1 143 k = nI x1.1)) y.2.2.2.2.1 then .error (4, ps_sk T m (y.1 + 1)) else (ps_end T m x1.2).bind fun e =>
    .ok (e, bo_up (bo_up y.2.1 143 y.2.2.2.2.1 (nI x1.1)) 135 14 (nI (y.2.2.2.2.1 + 1)), y.2.2.1, y.2.2.2.1, y.2.2.2.2.1 + 1, y.2.2.2.2.2)
  else .error (3, y.1)
def ps_sexton (T : Nat → Nat) (m : Nat) (y : PS) : Except (Nat × Nat) PS :=
  if y.2.2.2.2.2 < 4 then
    (ps_num T m (y.1 + 1) 0 95).bind fun x1 => (ps_num T m x1.2 1 (min 24 (96 - x1.1))).bind fun x2 => (ps_end T m x2.2).bind fun e =>
    .ok (e, bo_up (bo_up (bo_up y.2.1 139 y.2.2.2.2.2 (nI x1.1)) 140 y.2.2.2.2.2 (nI x2.1)) 135 8 (nI (y.2.2.2.2.2 + 1)), y.2.2.1, y.2.2.2.1, y.2.2.2.2.1, y.2.2.2.2.2 + 1)
  else .error (3, y.1)
def ps_env (y : PS) : Prop := sp_env y.2.1 y.2.2.1 y.2.2.2.1 y.2.2.2.2.1 y.2.2.2.2.2
/-- the class stands at y -/
def cr (σ : bo_M) (i : Nat) (T : Nat → Nat) (m : Nat) (y : PS) : Prop :=
  tx σ T m ∧ σ 1 1 = nI y.1 ∧ y.1 ≤ m ∧ σ 1 3 = 0 ∧ σ 1 5 = -1 ∧ sp_inn σ i y.2.1 y.2.2.1 y.2.2.2.1 y.2.2.2.2.1 y.2.2.2.2.2 ∧ σ i 12 = nI y.2.2.2.2.2
/-- what a clause comes to -/
def cl_res (i : Nat) (T : Nat → Nat) (m : Nat) (σ : bo_M) (a : Nat) (R : Option bo_M) : Except (Nat × Nat) PS → Prop
  | .error (c, p) => bad i σ R c p
  | .ok y => ∃ σ', R = some σ' ∧ frH i σ σ' ∧ cr σ' i T m y ∧ ps_env y ∧ a < y.1
/-- the start of a clause that isn't full -/
theorem cl_start0 (hi : i = 34 ∨ i = 42) {y : PS} (hc : cr σ i T m y) : mX7_startClause σ 0 = some (bo_up σ 1 1 (nI (y.1 + 1))) := by
  rw [cl_start 0 hc.2.1, if_pos rfl]
theorem cl_full3 {K : bo_M → Option bo_M} (hi : i = 34 ∨ i = 42) {y : PS} (hc : cr σ i T m y) (hK : Fa i y.2.2.2.2.1 T m K) {q : Int32} (hq : ¬ q = 0) : bad i σ ((mX7_startClause σ q).bind K) 3 y.1 := by
  obtain ⟨h1, h2, h3, h4, h5, h6, h7⟩ := hc
  have hm := h1.1
  rw [cl_start q h2, if_neg hq, Option.bind_some]
  have f : fr1 σ (bo_up (wr σ 3 (nI y.1)) 1 1 (nI (y.1 + 1))) := wr_fr.tr (fr1.up (by omega))
  refine (hK.bad (h1.fr f) bq_up_s (by omega) (by omega) ?_ ?_ (by rw [f i 14 (by omega)]; exact h6.nS)).fr f.H
  · rw [bq_up, if_neg (by omega), wr_3 h4]; rfl
  · rw [bq_up, if_neg (by omega), wr_5 h4]
/-- a number, and what follows -/
theorem cl_num_step {w : bo_M → Int32 → bo_M → Option bo_M} {K : Int32 → bo_M → Option bo_M} {l u a1 : Nat} {lo hi : Int32} {E : Nat × Nat → Except (Nat × Nat) PS} (hlo : lo = nI l) (hhi : hi = nI u) (hl : l ≤ 1000) (hu : u ≤ 1000) (hi2 : i = 34 ∨ i = 42) (hw : ∀ σ v, kO i S (w σ v)) (hK : ∀ v, Fa i S T m (K v))
    (f : frH i σ s) (hT : tx s T m) (h : s 1 1 = nI a1) (ha : a1 ≤ 1000) (hf : s 1 3 = 0) (h14 : s i 14 = nI S)
    (main : ∀ v a2 t, fr1 s t → l ≤ v → v ≤ u → t 1 1 = nI a2 → a2 ≤ max a1 m → a1 < a2 → t 1 2 = nI (ps_sk T m a1) → t 1 3 = 0 → t 1 5 = s 1 5 → cl_res i T m σ a ((w s (nI v) t).bind fun s => K (nI v) s) (E (v, a2))) :
    cl_res i T m σ a (kW w lo hi K s) ((ps_num T m a1 l u).bind E) := by
  cases e : ps_num T m a1 l u with
  | error q => exact (kW_bad hlo hhi hl hu hi2 hw hK hT h ha hf h14 e).fr f
  | ok q =>
    obtain ⟨v, a2⟩ := q
    obtain ⟨t, x1, x2, x3, x4, x5, x6, x7, x8, x9, x10⟩ := kW_ok (w := w) (K := K) hlo hhi hl hu hT h ha hf e
    rw [x1]
    exact main v a2 t x2 x3 x4 x5 x6 x7 x8 x9 x10
theorem cl_end_step {f : bo_M → Option bo_M} {a1 : Nat} {E : Nat → Except (Nat × Nat) PS} (hi2 : i = 34 ∨ i = 42) (hf : ∀ s, ¬ s 1 3 = 0 → s i 14 = nI S → ∃ s', f s = some s' ∧ frI i s s') (fr : frH i σ s) (hT : tx s T m) (h : s 1 1 = nI a1) (ha : a1 ≤ 1000) (h3 : s 1 3 = 0) (h14 : s i 14 = nI S)
    (main : ∀ a2 t, fr1 s t → t 1 1 = nI a2 → a2 ≤ m → a1 < a2 → t 1 3 = 0 → t 1 5 = s 1 5 → cl_res i T m σ a (f t) (E a2)) : cl_res i T m σ a (kE f s) ((ps_end T m a1).bind E) := by
  cases e : ps_end T m a1 with
  | error q => exact (kE_bad hi2 hf hT h ha h3 h14 e).fr fr
  | ok a2 =>
    obtain ⟨t, w1, w2, w3, w4, w5, w6, w7⟩ := kE_ok (f := f) hT h ha h3 e
    rw [w1]
    exact main a2 t w2 w3 w4 w5 w6 w7
/-! drinkers -/
noncomputable def kD3 (i : Nat) : bo_M → Option bo_M := kW (fun σ v s => mX8_put s 7 (i + 3) (σ i 11) v) 0 100 fun _ => kE fun s => some (bo_up s i 11 (s i 11 + 1))
noncomputable def kD2 (i : Nat) : bo_M → Option bo_M := kW (fun σ v s => mX8_put s 7 (i + 2) (σ i 11) v) 1 20 fun _ => kD3 i
noncomputable def kD1 (i : Nat) : bo_M → Option bo_M := kW (fun σ v s => mX8_put s 7 (i + 1) (σ i 11) v) 1 40 fun _ => kD2 i
theorem kD_end (i : Nat) (b : Nat) : ∀ s : bo_M, ¬ s 1 3 = 0 → s i 14 = nI S → ∃ s', some (bo_up s i b (s i b + 1)) = some s' ∧ frI i s s' := fun s _ _ => ⟨_, rfl, fun x c z => by rw [bq_up_o (by omega)]⟩
theorem kD3_F (hi : i = 34 ∨ i = 42) : Fa i S T m (kD3 i) := Fa.num hi (fun _ _ => kO_put (by omega) (by decide)) (fun _ => Fa.end_ hi (kD_end i 11))
theorem kD2_F (hi : i = 34 ∨ i = 42) : Fa i S T m (kD2 i) := Fa.num hi (fun _ _ => kO_put (by omega) (by decide)) (fun _ => kD3_F hi)
theorem kD1_F (hi : i = 34 ∨ i = 42) : Fa i S T m (kD1 i) := Fa.num hi (fun _ _ => kO_put (by omega) (by decide)) (fun _ => kD2_F hi)
theorem kD_is (σ : bo_M) (i : Nat) : mX7_readDrinker σ i = ((if σ i 11 < 7 then some (0 : Int32) else some 1).bind fun a1 => (mX7_startClause σ a1).bind (kD1 i)) := rfl
theorem cl_drinker (hi : i = 34 ∨ i = 42) {y : PS} (hc : cr σ i T m y) (hE : ps_env y) : cl_res i T m σ y.1 (mX7_readDrinker σ i) (ps_drinker T m y) := by
  rw [kD_is]
  obtain ⟨a, N, D, G, S, X⟩ := y
  unfold ps_drinker
  have hc' := hc
  obtain ⟨h1, h2, h3, h4, h5, h6, h8⟩ := hc
  dsimp only at h1 h2 h3 h4 h5 h6 h8 ⊢
  have hE' : sp_env N D G S X := hE
  have hm := h1.1
  rw [h6.nD]
  by_cases c : D < 7
  · rw [if_pos c, if_pos (show nI D < 7 from nI_lt (b := 7) c (by decide)), Option.bind_some, cl_start0 hi hc', Option.bind_some]
    obtain ⟨s0, hs0⟩ : ∃ s0, s0 = bo_up σ 1 1 (nI (a + 1)) := ⟨_, rfl⟩
    dsimp only
    rw [← hs0]
    have f0 : fr1 σ s0 := by rw [hs0]; exact fr1.up (by omega)
    have g1 : s0 1 1 = nI (a + 1) := by rw [hs0, bq_up_s]
    have g3 : s0 1 3 = 0 := by rw [hs0, bq_up, if_neg (by omega)]; exact h4
    have g5 : s0 1 5 = -1 := by rw [hs0, bq_up, if_neg (by omega)]; exact h5
    have g14 : s0 i 14 = nI S := by rw [f0 i 14 (by omega)]; exact h6.nS
    have g11 : s0 i 11 = nI D := by rw [f0 i 11 (by omega)]; exact h6.nD
    cases e1 : ps_num T m (a + 1) 1 40 with
    | error q => exact (kW_bad (l := 1) (u := 40) rfl rfl (by omega) (by omega) hi (fun _ _ => kO_put (by omega) (by decide)) (fun _ => kD2_F hi) (h1.fr f0) g1 (by omega) g3 g14 e1).fr f0.H
    | ok q =>
      obtain ⟨v1, a1⟩ := q
      obtain ⟨t1, x1, x2, x3, x4, x5, x6, x7, -, x9, x10⟩ := kW_ok (w := fun σ v s => mX8_put s 7 (i + 1) (σ i 11) v) (K := fun _ => kD2 i) (l := 1) (u := 40) (lo := 1) (hi := 40) rfl rfl (by omega) (by omega) (h1.fr f0) g1 (by omega) g3 e1
      show cl_res i T m σ a (kD1 i s0) _
      rw [show kD1 i s0 = _ from x1, g11, bq_put c (by decide), Option.bind_some]
      obtain ⟨s1, hs1⟩ : ∃ s1, s1 = bo_up t1 (i + 1) D (nI v1) := ⟨_, rfl⟩
      rw [← hs1]
      have f1 : frH i σ s1 := f0.H.tr (x2.H.tr (by rw [hs1]; exact fun x b _ z => bq_up_o (show x ≠ i + 1 by omega) ▸ rfl))
      have r1 : ∀ b, s1 1 b = t1 1 b := fun b => by rw [hs1, bq_up_o (by omega)]
      have o1 : ∀ b, s1 i b = σ i b := fun b => by rw [hs1, bq_up_o (by omega), x2 i b (by omega), f0 i b (by omega)]
      cases e2 : ps_num T m a1 1 20 with
      | error q =>
        have := (kW_bad (w := fun σ v s => mX8_put s 7 (i + 2) (σ i 11) v) (K := fun _ => kD3 i) (l := 1) (u := 20) (lo := 1) (hi := 20) (S := S) rfl rfl (by omega) (by omega) hi (fun _ _ => kO_put (by omega) (by decide)) (fun _ => kD3_F hi) (h1.frH f1 hi) (by rw [r1]; exact x5) (by omega) (by rw [r1]; exact x9) (by rw [o1]; exact h6.nS) e2).fr f1
        show cl_res i T m σ a _ ((ps_num T m a1 1 20).bind _)
        rw [e2]
        exact this
      | ok q =>
        obtain ⟨v2, a2⟩ := q
        obtain ⟨t2, y1, y2, y3, y4, y5, y6, y7, -, y9, y10⟩ := kW_ok (w := fun σ v s => mX8_put s 7 (i + 2) (σ i 11) v) (K := fun _ => kD3 i) (l := 1) (u := 20) (lo := 1) (hi := 20) rfl rfl (by omega) (by omega) (h1.frH f1 hi) (by rw [r1]; exact x5) (by omega) (by rw [r1]; exact x9) e2
        rw [show kD2 i s1 = _ from y1, o1 11, h6.nD, bq_put c (by decide), Option.bind_some]
        obtain ⟨s2, hs2⟩ : ∃ s2, s2 = bo_up t2 (i + 2) D (nI v2) := ⟨_, rfl⟩
        rw [← hs2]
        have f2 : frH i s1 s2 := y2.H.tr (by rw [hs2]; exact fun x b _ z => bq_up_o (show x ≠ i + 2 by omega) ▸ rfl)
        have r2 : ∀ b, s2 1 b = t2 1 b := fun b => by rw [hs2, bq_up_o (by omega)]
        have o2 : ∀ b, s2 i b = σ i b := fun b => by rw [hs2, bq_up_o (by omega), y2 i b (by omega), o1]
        show cl_res i T m σ a _ ((ps_num T m a1 1 20).bind _)
        rw [e2]
        cases e3 : ps_num T m a2 0 100 with
        | error q =>
          have := (kW_bad (w := fun σ v s => mX8_put s 7 (i + 3) (σ i 11) v) (K := fun _ => kE fun s => some (bo_up s i 11 (s i 11 + 1))) (l := 0) (u := 100) (lo := 0) (hi := 100) (S := S) rfl rfl (by omega) (by omega) hi (fun _ _ => kO_put (by omega) (by decide)) (fun _ => Fa.end_ hi (kD_end i 11)) (h1.frH (f1.tr f2) hi) (by rw [r2]; exact y5) (by omega) (by rw [r2]; exact y9) (by rw [o2]; exact h6.nS) e3).fr (f1.tr f2)
          show cl_res i T m σ a _ ((ps_num T m a2 0 100).bind _)
          rw [e3]
          exact this
        | ok q =>
          obtain ⟨v3, a3⟩ := q
          obtain ⟨t3, z1, z2, z3, z4, z5, z6, z7, -, z9, z10⟩ := kW_ok (w := fun σ v s => mX8_put s 7 (i + 3) (σ i 11) v) (K := fun _ => kE fun s => some (bo_up s i 11 (s i 11 + 1))) (l := 0) (u := 100) (lo := 0) (hi := 100) rfl rfl (by omega) (by omega) (h1.frH (f1.tr f2) hi) (by rw [r2]; exact y5) (by omega) (by rw [r2]; exact y9) e3
          rw [show kD3 i s2 = _ from z1, o2 11, h6.nD, bq_put c (by decide), Option.bind_some]
          obtain ⟨s3, hs3⟩ : ∃ s3, s3 = bo_up t3 (i + 3) D (nI v3) := ⟨_, rfl⟩
          rw [← hs3]
          have f3 : frH i s2 s3 := z2.H.tr (by rw [hs3]; exact fun x b _ z => bq_up_o (show x ≠ i + 3 by omega) ▸ rfl)
          have r3 : ∀ b, s3 1 b = t3 1 b := fun b => by rw [hs3, bq_up_o (by omega)]
          have o3 : ∀ b, s3 i b = σ i b := fun b => by rw [hs3, bq_up_o (by omega), z2 i b (by omega), o2]
          show cl_res i T m σ a _ ((ps_num T m a2 0 100).bind _)
          rw [e3]
          cases e4 : ps_end T m a3 with
          | error q =>
            have := (kE_bad (f := fun s => some (bo_up s i 11 (s i 11 + 1))) (S := S) hi (kD_end i 11) (h1.frH ((f1.tr f2).tr f3) hi) (by rw [r3]; exact z5) (by omega) (by rw [r3]; exact z9) (by rw [o3]; exact h6.nS) e4).fr ((f1.tr f2).tr f3)
            show cl_res i T m σ a _ ((ps_end T m a3).bind _)
            rw [e4]
            exact this
          | ok a4 =>
            obtain ⟨t4, w1, w2, w3, w4, w5, w6, w7⟩ := kE_ok (f := fun s => some (bo_up s i 11 (s i 11 + 1))) (h1.frH ((f1.tr f2).tr f3) hi) (by rw [r3]; exact z5) (by omega) (by rw [r3]; exact z9) e4
            show cl_res i T m σ a _ ((ps_end T m a3).bind _)
            rw [e4, w1]
            have o4 : ∀ b, t4 i b = σ i b := fun b => by rw [w2 i b (by omega), o3]
            have rr : ∀ x b, i < x → x ≤ i + 7 → t4 x b = if x = i + 1 ∧ b = D then nI v1 else if x = i + 2 ∧ b = D then nI v2 else if x = i + 3 ∧ b = D then nI v3 else σ x b := fun x b q1 q2 => by
              rw [w2 x b (by omega), hs3, bq_up, z2 x b (by omega), hs2, bq_up, y2 x b (by omega), hs1, bq_up, x2 x b (by omega), f0 x b (by omega)]
              by_cases k1 : x = i + 1 ∧ b = D
              · rw [if_neg (by omega), if_neg (by omega), if_pos k1, if_pos k1]
              · rw [if_neg k1, if_neg k1]
                by_cases k2 : x = i + 2 ∧ b = D
                · rw [if_neg (by omega), if_pos k2, if_pos k2]
                · rw [if_neg k2, if_neg k2]
            refine ⟨_, rfl, ((f1.tr f2).tr f3).tr (w2.H.tr (fun x b _ q => by rw [bq_up_o (by omega)])), ?_, ?_, show a < a4 by omega⟩
            · have ff : frH i σ (bo_up t4 i 11 (t4 i 11 + 1)) := ((f1.tr f2).tr f3).tr (w2.H.tr (fun x b _ q => by rw [bq_up_o (by omega)]))
              refine ⟨h1.frH ff hi, by rw [bq_up_o (by omega)]; exact w3, w4, by rw [bq_up_o (by omega)]; exact w6, ?_, ?_, ?_⟩
              · rw [bq_up_o (by omega), w7, r3, z10, r2, y10, r1, x10, g5]
              · refine ⟨?_, ?_, ?_, ?_, ?_, ?_, ?_, fun d hd => ?_, fun d hd => ?_, fun d hd => ?_, fun q hq => ?_⟩
                · rw [bq_up, if_neg (by omega), o4]; exact h6.open_
                · rw [bq_up, if_neg (by omega), o4]; exact h6.echo
                · rw [bq_up, if_neg (by omega), o4]; exact h6.takes
                · rw [bq_up, if_neg (by omega), o4]; exact h6.wet
                · rw [bq_up_s, o4, h6.nD, nI_1]
                · rw [bq_up, if_neg (by omega), o4]; exact h6.nG
                · rw [bq_up, if_neg (by omega), o4]; exact h6.nS
                · rw [bq_up_o (by omega), bq_up_o (by omega), bq_up_o (by omega), rr _ _ (by omega) (by omega), rr _ _ (by omega) (by omega), rr _ _ (by omega) (by omega)]
                  dsimp only
                  simp only [bq_up]
                  by_cases k : d = D
                  · subst k
                    simp
                  · have h' := h6.dr d (show d < D by dsimp only at hd; omega)
                    simp [k, h']
                · rw [bq_up_o (by omega), bq_up_o (by omega), rr _ _ (by omega) (by omega), rr _ _ (by omega) (by omega)]
                  simp only [bq_up]
                  have h' := h6.go d hd
                  simp [h']
                · rw [bq_up_o (by omega), rr _ _ (by omega) (by omega)]
                  simp only [bq_up]
                  have h' := h6.si d hd
                  simp [h']
                · rw [bq_up_o (by omega), rr _ _ (by omega) (by omega)]
                  have h' := h6.bl q hq
                  rw [sp_bl_cong (N := N) (M := bo_up (bo_up (bo_up (bo_up N 136 D (nI v1)) 137 D (nI v2)) 138 D (nI v3)) 135 4 (nI (D + 1))) (funext fun b => by simp [bq_up]) (funext fun b => by simp [bq_up]), ← h']
                  simp
              · rw [bq_up, if_neg (by omega), o4]; exact h8
            · show sp_env (bo_up (bo_up (bo_up (bo_up N 136 D (nI v1)) 137 D (nI v2)) 138 D (nI v3)) 135 4 (nI (D + 1))) (D + 1) G S X
              refine ⟨⟨bq_up_s, c⟩, ⟨?_, hE'.nG.2⟩, ⟨?_, hE'.nS.2⟩, ⟨?_, hE'.nX.2⟩, ?_, ?_, ?_, fun d hd => ?_, fun d hd => ?_, fun d hd => ?_, fun d hd => ?_⟩
              · simp only [bq_up]; simpa using hE'.nG.1
              · simp only [bq_up]; simpa using hE'.nS.1
              · simp only [bq_up]; simpa using hE'.nX.1
              · simp only [bq_up]; simpa using hE'.echo
              · simp only [bq_up]; simpa using hE'.takes
              · simp only [bq_up]; simpa using hE'.wet
              · simp only [bq_up]
                by_cases k : d = D
                · subst k
                  simp
                  exact ⟨⟨v1, rfl, x3, x4⟩, ⟨v2, rfl, y3, y4⟩, ⟨v3, rfl, z3, z4⟩⟩
                · have h' := hE'.dr d (show d < D by omega)
                  simpa [k] using h'
              · simp only [bq_up]; simpa using hE'.ti d hd
              · simp only [bq_up]; simpa using hE'.go d hd
              · simp only [bq_up]; simpa using hE'.si d hd
  · rw [if_neg c, if_neg (show ¬ nI D < 7 from nI_nlt (b := 7) (by omega) (by have := hE'.nD.2; omega)), Option.bind_some]
    exact cl_full3 hi hc' (kD1_F hi) bq_10
end CLAUSES
