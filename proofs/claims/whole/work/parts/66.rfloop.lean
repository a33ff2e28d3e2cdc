/-! the reference reads the text -/
section RFLOOP
variable {σ σ' s N : bo_M} {T : Nat → Nat} {m a i D G S X : Nat}
theorem ps_bind {α β : Type} {x : Except (Nat × Nat) α} {f : α → Except (Nat × Nat) β} {b : β} (h : x.bind f = .ok b) : ∃ a, x = .ok a ∧ f a = .ok b := by
  cases x with
  | error e => cases h
  | ok a => exact ⟨a, rfl, h⟩
theorem ps_num_lt {l u v a' : Nat} (h : ps_num T m a l u = .ok (v, a')) : a < a' := by
  unfold ps_num at h
  obtain ⟨k1, k2, k3⟩ := ps_sk_le (T := T) (m := m) (m - a) a rfl
  have d := ps_dg_le (T := T) (m - ps_sk T m a) (ps_sk T m a) 0 0 (by omega) (by omega) (by omega) (fun _ => rfl)
  split at h
  · cases h
  · split at h
    · cases h
    · have := Except.ok.inj h
      have := congrArg Prod.snd this
      dsimp only at this
      omega
theorem ps_end_lt {a' : Nat} (h : ps_end T m a = .ok a') : a < a' := by
  unfold ps_end at h
  obtain ⟨k1, k2, k3⟩ := ps_sk_le (T := T) (m := m) (m - a) a rfl
  split at h
  · have := Except.ok.inj h
    omega
  · cases h
theorem ps_clause_lt {y y' : PS} (h : ps_clause T m y = .ok y') : y.1 < y'.1 := by
  unfold ps_clause at h
  by_cases c1 : T y.1 = 98
  · rw [if_pos c1] at h
    unfold ps_bell at h
    split at h
    · obtain ⟨x1, e1, h⟩ := ps_bind h
      obtain ⟨x2, e2, h⟩ := ps_bind h
      obtain ⟨x3, e3, h⟩ := ps_bind h
      obtain ⟨x4, e4, h⟩ := ps_bind h
      have := congrArg Prod.fst (Except.ok.inj h)
      have := ps_num_lt (v := x1.1) (a' := x1.2) e1
      have := ps_num_lt (v := x2.1) (a' := x2.2) e2
      have := ps_num_lt (v := x3.1) (a' := x3.2) e3
      have := ps_end_lt e4
      dsimp only at *
      omega
    · cases h
  · rw [if_neg c1] at h
    split at h
    · cases h
    · split at h
      · unfold ps_drinker at h
        split at h
        · obtain ⟨x1, e1, h⟩ := ps_bind h
          obtain ⟨x2, e2, h⟩ := ps_bind h
          obtain ⟨x3, e3, h⟩ := ps_bind h
          obtain ⟨x4, e4, h⟩ := ps_bind h
          have := congrArg Prod.fst (Except.ok.inj h)
          have := ps_num_lt (v := x1.1) (a' := x1.2) e1
          have := ps_num_lt (v := x2.1) (a' := x2.2) e2
          have := ps_num_lt (v := x3.1) (a' := x3.2) e3
          have := ps_end_lt e4
          dsimp only at *
          omega
        · cases h
      · split at h
        · unfold ps_goer at h
          split at h
          · obtain ⟨x1, e1, h⟩ := ps_bind h
            obtain ⟨x2, e2, h⟩ := ps_bind h
            obtain ⟨x4, e4, h⟩ := ps_bind h
            have := congrArg Prod.fst (Except.ok.inj h)
            have := ps_num_lt (v := x1.1) (a' := x1.2) e1
            have := ps_num_lt (v := x2.1) (a' := x2.2) e2
            have := ps_end_lt e4
            dsimp only at *
            omega
          · cases h
        · split at h
          · unfold ps_signal at h
            split at h
            · obtain ⟨x1, e1, h⟩ := ps_bind h
              split at h
              · cases h
              · obtain ⟨x4, e4, h⟩ := ps_bind h
                have := congrArg Prod.fst (Except.ok.inj h)
                have := ps_num_lt (v := x1.1) (a' := x1.2) e1
                have := ps_end_lt e4
                dsimp only at *
                omega
            · cases h
          · split at h
            · unfold ps_sexton at h
              split at h
              · obtain ⟨x1, e1, h⟩ := ps_bind h
                obtain ⟨x2, e2, h⟩ := ps_bind h
                obtain ⟨x4, e4, h⟩ := ps_bind h
                have := congrArg Prod.fst (Except.ok.inj h)
                have := ps_num_lt (v := x1.1) (a' := x1.2) e1
                have := ps_num_lt (v := x2.1) (a' := x2.2) e2
                have := ps_end_lt e4
                dsimp only at *
                omega
              · cases h
            · cases h
theorem rf_failc {c : Nat} (hc : 1 ≤ c ∧ c ≤ 4) {p : Nat} : rf_res T m σ ((mX11_fails σ (nI c) (nI p)).bind fun x => some (x.1, x.2)) (.error (c, p)) := by
  rw [rf_fails, Option.bind_some]
  exact ⟨bo_up σ 135 20 (nI p), rfl, (fn.up (by omega)).Q, bq_up_s, hc.1, hc.2⟩
theorem tC_is (σ : bo_M) : mX11_takeClause σ = (mX11_here σ).bind fun a1 => (mX11_whichClause a1.2 a1.1).bind fun v2 =>
    if v2 < 0 then (mX11_fails a1.2 1 (a1.2 135 21)).bind fun x => some (x.1, x.2)
    else if v2 ≤ 0 then (mX11_isFull a1.2 v2).bind fun v4 => if v4 = 0 then (some (bo_up a1.2 135 21 ((a1.2 135 21) + 1))).bind fun s => (mX11_takeBody s v2).bind rfin else (mX11_fails a1.2 3 (a1.2 135 21)).bind fun x => some (x.1, x.2)
    else if (a1.2 135 24 &&& 1) = 0 then (mX11_fails a1.2 1 (a1.2 135 21)).bind fun x => some (x.1, x.2)
    else (mX11_isFull a1.2 v2).bind fun v4 => if v4 = 0 then (some (bo_up a1.2 135 21 ((a1.2 135 21) + 1))).bind fun s => (mX11_takeBody s v2).bind rfin else (mX11_fails a1.2 3 (a1.2 135 21)).bind fun x => some (x.1, x.2) := rfl
theorem rf_clause {y : PS} (hr : rr σ T m y) (hE : ps_env y) (hsk : ps_sk T m y.1 = y.1) (ha : y.1 < m) : rf_res T m σ (mX11_takeClause σ) (ps_clause T m y) := by
  obtain ⟨h1, h2, h3, h4, q1, q2, q3, q4, q5, q6, q7, q8⟩ := id hr
  have hm := h1.1
  have t2 := (h1.2.2 y.1 ha).2
  have f1 := rf_failc (σ := σ) (T := T) (m := m) (c := 1) (by omega) (p := y.1)
  have f3 := rf_failc (σ := σ) (T := T) (m := m) (c := 3) (by omega) (p := y.1)
  rw [tC_is, rf_here h1 h2 (by omega), hsk, Option.bind_some, if_pos ha, ← h2, bq_up_self]
  dsimp only
  rw [h2, nI_1]
  unfold mX11_whichClause ps_clause
  simp only [show (98 : Int32) = nI 98 from rfl, show (100 : Int32) = nI 100 from rfl, show (103 : Int32) = nI 103 from rfl, show (110 : Int32) = nI 110 from rfl, show (115 : Int32) = nI 115 from rfl, cl_letter t2 (show 98 ≤ 255 by decide), cl_letter t2 (show 100 ≤ 255 by decide), cl_letter t2 (show 103 ≤ 255 by decide), cl_letter t2 (show 110 ≤ 255 by decide), cl_letter t2 (show 115 ≤ 255 by decide)]
  by_cases c1 : T y.1 = 98
  · rw [if_pos c1, if_pos c1, Option.bind_some, if_neg (show ¬ (0 : Int32) < 0 by decide), if_pos (show (0 : Int32) ≤ 0 by decide)]
    unfold mX11_isFull mX11_takeBody
    rw [if_pos bq_00, Option.bind_some, q1, Option.bind_some, if_pos bq_00, bq_bp]
    by_cases c0 : y.2.1 135 0 &&& 1 = 0
    · rw [if_pos c0]
      exact rf_law hr c0 ha
    · rw [if_neg c0]
      unfold ps_bell
      rw [if_neg c0]
      exact f3
  · rw [if_neg c1, if_neg c1]
    by_cases c0 : y.2.1 135 0 &&& 1 = 0
    · rw [if_pos c0]
      have e : ∀ v2 : Int32, v2 = -1 ∨ 0 < v2 → rf_res T m σ (if v2 < 0 then (mX11_fails σ 1 (nI y.1)).bind fun x => some (x.1, x.2)
        else if v2 ≤ 0 then (mX11_isFull σ v2).bind fun v4 => if v4 = 0 then (some (bo_up σ 135 21 (nI (y.1 + 1)))).bind fun s => (mX11_takeBody s v2).bind rfin else (mX11_fails σ 3 (nI y.1)).bind fun x => some (x.1, x.2)
        else if (σ 135 24 &&& 1) = 0 then (mX11_fails σ 1 (nI y.1)).bind fun x => some (x.1, x.2)
        else (mX11_isFull σ v2).bind fun v4 => if v4 = 0 then (some (bo_up σ 135 21 (nI (y.1 + 1)))).bind fun s => (mX11_takeBody s v2).bind rfin else (mX11_fails σ 3 (nI y.1)).bind fun x => some (x.1, x.2)) (.error (1, y.1)) := by
        intro v2 hv
        rcases hv with rfl | hv
        · rw [if_pos (by decide)]; exact f1
        · rw [if_neg (fun z => (fa_of_lt hv).2.2.1 z), if_neg (fun z => (fa_of_lt hv).2.1 z), q1, if_pos c0]; exact f1
      by_cases c2 : T y.1 = 100
      · rw [if_pos c2, Option.bind_some]; exact e 1 (Or.inr (by decide))
      · rw [if_neg c2]
        by_cases c3 : T y.1 = 115
        · rw [if_pos c3, Option.bind_some]; exact e 2 (Or.inr (by decide))
        · rw [if_neg c3]
          by_cases c4 : T y.1 = 103
          · rw [if_pos c4, Option.bind_some]; exact e 3 (Or.inr (by decide))
          · rw [if_neg c4]
            by_cases c5 : T y.1 = 110
            · rw [if_pos c5, Option.bind_some]; exact e 4 (Or.inr (by decide))
            · rw [if_neg c5, Option.bind_some]; exact e (-1) (Or.inl rfl)
    · rw [if_neg c0]
      by_cases c2 : T y.1 = 100
      · rw [if_pos c2, if_pos c2, Option.bind_some, if_neg (show ¬ (1 : Int32) < 0 by decide), if_neg (show ¬ (1 : Int32) ≤ 0 by decide), q1, if_neg c0]
        unfold mX11_isFull mX11_takeBody
        rw [if_neg bq_10, if_pos (show (1 : Int32) = 1 from rfl), q4, Option.bind_some, if_neg bq_10, if_pos (show (1 : Int32) = 1 from rfl), bq_bp]
        have hd := hE.nD.2
        by_cases c : y.2.2.1 < 7
        · rw [if_neg (show ¬ nI y.2.2.1 = 7 from fun z => by have := (nI_eq (b := 7) (by omega) (by decide)).mp z; omega), Option.bind_some, if_pos bq_00]
          exact rf_drinker hr c ha
        · rw [if_pos (show nI y.2.2.1 = 7 by rw [show y.2.2.1 = 7 by omega]; rfl), Option.bind_some, if_neg bq_10]
          unfold ps_drinker
          rw [if_neg c]
          exact f3
      · rw [if_neg c2, if_neg c2]
        by_cases c3 : T y.1 = 115
        · rw [if_pos c3, if_neg (by omega), if_neg (by omega), if_pos c3, Option.bind_some, if_neg (show ¬ (2 : Int32) < 0 by decide), if_neg (show ¬ (2 : Int32) ≤ 0 by decide), q1, if_neg c0]
          unfold mX11_isFull mX11_takeBody
          rw [if_neg (show ¬ (2 : Int32) = 0 by decide), if_neg (show ¬ (2 : Int32) = 1 by decide), if_pos (show (2 : Int32) = 2 from rfl), q7, Option.bind_some, if_neg (show ¬ (2 : Int32) = 0 by decide), if_neg (show ¬ (2 : Int32) = 1 by decide), if_pos (show (2 : Int32) = 2 from rfl), bq_bp]
          have hd := hE.nX.2
          by_cases c : y.2.2.2.2.2 < 4
          · rw [if_neg (show ¬ nI y.2.2.2.2.2 = 4 from fun z => by have := (nI_eq (b := 4) (by omega) (by decide)).mp z; omega), Option.bind_some, if_pos bq_00]
            exact rf_time hr c ha
          · rw [if_pos (show nI y.2.2.2.2.2 = 4 by rw [show y.2.2.2.2.2 = 4 by omega]; rfl), Option.bind_some, if_neg bq_10]
            unfold ps_sexton
            rw [if_neg c]
            exact f3
        · rw [if_neg c3]
          by_cases c4 : T y.1 = 103
          · rw [if_pos c4, if_pos c4, Option.bind_some, if_neg (show ¬ (3 : Int32) < 0 by decide), if_neg (show ¬ (3 : Int32) ≤ 0 by decide), q1, if_neg c0]
            unfold mX11_isFull mX11_takeBody
            rw [if_neg (show ¬ (3 : Int32) = 0 by decide), if_neg (show ¬ (3 : Int32) = 1 by decide), if_neg (show ¬ (3 : Int32) = 2 by decide), if_pos (show (3 : Int32) = 3 from rfl), q5, Option.bind_some, if_neg (show ¬ (3 : Int32) = 0 by decide), if_neg (show ¬ (3 : Int32) = 1 by decide), if_neg (show ¬ (3 : Int32) = 2 by decide), if_pos (show (3 : Int32) = 3 from rfl), bq_bp]
            have hd := hE.nG.2
            by_cases c : y.2.2.2.1 < 6
            · rw [if_neg (show ¬ nI y.2.2.2.1 = 6 from fun z => by have := (nI_eq (b := 6) (by omega) (by decide)).mp z; omega), Option.bind_some, if_pos bq_00]
              exact rf_goer hr c ha
            · rw [if_pos (show nI y.2.2.2.1 = 6 by rw [show y.2.2.2.1 = 6 by omega]; rfl), Option.bind_some, if_neg bq_10]
              unfold ps_goer
              rw [if_neg c]
              exact f3
          · rw [if_neg c4, if_neg c4]
            by_cases c5 : T y.1 = 110
            · rw [if_pos c5, if_pos c5, Option.bind_some, if_neg (show ¬ (4 : Int32) < 0 by decide), if_neg (show ¬ (4 : Int32) ≤ 0 by decide), q1, if_neg c0]
              unfold mX11_isFull mX11_takeBody
              rw [if_neg (show ¬ (4 : Int32) = 0 by decide), if_neg (show ¬ (4 : Int32) = 1 by decide), if_neg (show ¬ (4 : Int32) = 2 by decide), if_neg (show ¬ (4 : Int32) = 3 by decide), q6, Option.bind_some, if_neg (show ¬ (4 : Int32) = 0 by decide), if_neg (show ¬ (4 : Int32) = 1 by decide), if_neg (show ¬ (4 : Int32) = 2 by decide), if_neg (show ¬ (4 : Int32) = 3 by decide), bq_bp]
              have hd := hE.nS.2
              by_cases c : y.2.2.2.2.1 < 5
              · rw [if_neg (show ¬ nI y.2.2.2.2.1 = 5 from fun z => by have := (nI_eq (b := 5) (by omega) (by decide)).mp z; omega), Option.bind_some, if_pos bq_00]
                exact rf_signal hr c ha
              · rw [if_pos (show nI y.2.2.2.2.1 = 5 by rw [show y.2.2.2.2.1 = 5 by omega]; rfl), Option.bind_some, if_neg bq_10]
                unfold ps_signal
                rw [if_neg c]
                exact f3
            · rw [if_neg c5, if_neg c5, if_neg c3, Option.bind_some, if_pos (by decide)]
              exact f1
/-- a memory in which the class stands at y -/
def cM (T : Nat → Nat) (m : Nat) (y : PS) : bo_M := fun a b =>
  if a = 1 then (if b = 4 then nI m else if b = 1 then nI y.1 else if b = 5 then -1 else 0)
  else if a = 2 then nI (T b)
  else if a = 34 then (if b = 7 then y.2.1 135 0 else if b = 8 then y.2.1 135 1 else if b = 9 then y.2.1 135 2 else if b = 10 then y.2.1 135 3 else if b = 11 then nI y.2.2.1 else if b = 12 then nI y.2.2.2.2.2 else if b = 13 then nI y.2.2.2.1 else nI y.2.2.2.2.1)
  else if a = 35 then y.2.1 136 b else if a = 36 then y.2.1 137 b else if a = 37 then y.2.1 138 b else if a = 38 then y.2.1 141 b else if a = 39 then y.2.1 142 b else if a = 40 then y.2.1 143 b
  else if sp_bl y.2.1 y.2.2.2.2.2 b then 1 else 0
theorem cM_cr {y : PS} (hm : m ≤ 240) (hT : ∀ k, k < m → T k ≤ 255) (hy : y.1 ≤ m) : cr (cM T m y) 34 T m y :=
  ⟨⟨hm, rfl, fun k hk => ⟨rfl, hT k hk⟩⟩, rfl, hy, rfl, rfl, ⟨rfl, rfl, rfl, rfl, rfl, rfl, rfl, fun d _ => ⟨rfl, rfl, rfl⟩, fun d _ => ⟨rfl, rfl⟩, fun d _ => rfl, fun q _ => rfl⟩, rfl⟩
theorem ps_clause_env {y y' : PS} (hm : m ≤ 240) (hT : ∀ k, k < m → T k ≤ 255) (ha : y.1 < m) (hE : ps_env y) (h : ps_clause T m y = .ok y') : ps_env y' := by
  have := cl_clause (Or.inl rfl) (cM_cr hm hT (by omega)) hE ha
  rw [h] at this
  obtain ⟨σ', -, -, -, h4, -⟩ := this
  exact h4
def rf_fin (T : Nat → Nat) (m : Nat) (σ : bo_M) (R : Option (Int32 × bo_M)) : Except (Nat × Nat) PS → Prop
  | .error (c, p) => ∃ σ', R = some (nI c, σ') ∧ frQ σ σ' ∧ σ' 135 20 = nI p ∧ 1 ≤ c ∧ c ≤ 4
  | .ok y => ∃ σ', R = some (0, σ') ∧ frQ σ σ' ∧ σ' 135 20 = -1 ∧ rh σ' y
theorem rf_loop : ∀ (r k n : Nat) (σ : bo_M) (y : PS), k + r = 240 → r + 1 < n → k ≤ y.1 → rr σ T m y → ps_env y → rf_fin T m σ (mX11_inn_L37 n 0 σ) (ps_read T m r (ps_sk T m y.1, y.2)) := by
  intro r
  induction r with
  | zero =>
    intro k n σ y hk hn hky hr hE
    obtain ⟨n, rfl⟩ : ∃ q, n = q + 1 := ⟨n - 1, by omega⟩
    obtain ⟨h1, h2, h3, h4, h5⟩ := hr
    have hm := h1.1
    simp only [mX11_inn_L37]
    rw [if_pos trivial, rf_here h1 h2 (by omega), Option.bind_some]
    dsimp only
    rw [ps_sk_end (by omega), if_neg (show ¬ y.1 < m by omega), if_pos (by decide), ← h2, bq_up_self]
    exact ⟨σ, rfl, frQ.rf, h4, h5⟩
  | succ r ih =>
    intro k n σ y hk hn hky hr hE
    obtain ⟨n, rfl⟩ : ∃ q, n = q + 1 := ⟨n - 1, by omega⟩
    obtain ⟨h1, h2, h3, h4, h5⟩ := id hr
    have hm := h1.1
    obtain ⟨k1, k2, k3⟩ := ps_sk_le (T := T) (m := m) (m - y.1) y.1 rfl
    simp only [mX11_inn_L37]
    rw [if_pos trivial, rf_here h1 h2 (by omega), Option.bind_some]
    dsimp only
    obtain ⟨s0, hs0⟩ : ∃ s0, s0 = bo_up σ 135 21 (nI (ps_sk T m y.1)) := ⟨_, rfl⟩
    rw [← hs0]
    have f0 : fn σ s0 := by rw [hs0]; exact fn.up (by omega)
    unfold ps_read
    by_cases c : m ≤ ps_sk T m y.1
    · rw [if_neg (show ¬ ps_sk T m y.1 < m by omega), if_pos (by decide), if_pos c]
      exact ⟨s0, rfl, f0.Q, by rw [hs0, bq_up, if_neg (by omega)]; exact h4, h5.n f0⟩
    · have hlt : ps_sk T m y.1 < m := by omega
      have t2 := (h1.2.2 _ hlt).2
      rw [if_pos hlt, if_neg (nI_pos (by omega)), if_neg c]
      have hr0 : rr s0 T m (ps_sk T m y.1, y.2) := ⟨h1.n f0, by rw [hs0, bq_up_s], by show ps_sk T m y.1 ≤ m; omega, by rw [hs0, bq_up, if_neg (by omega)]; exact h4, h5.n f0⟩
      have hcl := rf_clause hr0 hE ps_sk_sk hlt
      cases e : ps_clause T m (ps_sk T m y.1, y.2) with
      | error q =>
        obtain ⟨c0, p0⟩ := q
        rw [e] at hcl
        obtain ⟨σ', g1, g2, g3, g4, g5⟩ := hcl
        obtain ⟨n', hn'⟩ : ∃ n', n = n' + 1 := ⟨n - 1, by omega⟩
        rw [g1, Option.bind_some, hn']
        simp only [mX11_inn_L37]
        rw [if_neg (nz g4 g5)]
        exact ⟨σ', rfl, f0.Q.tr g2, g3, g4, g5⟩
      | ok y' =>
        rw [e] at hcl
        obtain ⟨σ', g1, g2, g3⟩ := hcl
        have hlt' := ps_clause_lt e
        dsimp only at hlt'
        rw [g1, Option.bind_some]
        have := ih (k + 1) n σ' y' (by omega) (by omega) (by omega) g3 (ps_clause_env (y := (ps_sk T m y.1, y.2)) h1.1 (fun k hk => (h1.2.2 k hk).2) hlt hE e)
        cases e2 : ps_read T m r (ps_sk T m y'.1, y'.2) with
        | error q =>
          obtain ⟨c0, p0⟩ := q
          rw [e2] at this
          obtain ⟨t, w1, w2, w3⟩ := this
          show rf_fin T m σ _ (ps_read T m r (ps_sk T m y'.1, y'.2))
          rw [e2]
          exact ⟨t, w1, (f0.Q.tr g2).tr w2, w3⟩
        | ok q =>
          rw [e2] at this
          obtain ⟨t, w1, w2, w3⟩ := this
          show rf_fin T m σ _ (ps_read T m r (ps_sk T m y'.1, y'.2))
          rw [e2]
          exact ⟨t, w1, (f0.Q.tr g2).tr w2, w3⟩
end RFLOOP
