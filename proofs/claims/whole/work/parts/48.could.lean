/-! could -/
section COULD
variable {σ s N : bo_M} {i D G S X g W : Nat} {V : Nat → Int32} {A H : Nat → Nat}
theorem kn_r.to' {s' : bo_M} (h : kn_r s N V W A H) (hs : ∀ a, 135 ≤ a ∧ a ≤ 161 → s' a = s a) : kn_r s' N V W A H := by
  refine ⟨h.1.to (fun a z1 z2 => hs a (by omega)), by rw [hs 144 (by decide)]; exact h.2.1, by rw [hs 135 (by decide)]; exact h.2.2.1, fun k hk => ?_⟩
  rw [hs 160 (by decide), hs 161 (by decide)]; exact h.2.2.2 k hk
def sp_fo {α : Type} (op : α → Nat → α) (a : α) : Nat → α
  | 0 => a
  | j + 1 => op (sp_fo op a j) j
theorem sp_fo_cnt {α : Type} {op : α → Nat → α} {a : α} {F : Nat → Bool} {E : Nat → Nat} : ∀ {n : Nat}, (∀ v, v < n → F v = true → E (sp_cnt F v) = v) → sp_fo (fun a j => op a (E j)) a (sp_cnt F n) = sp_fo (fun a w => if F w then op a w else a) a n
  | 0, _ => rfl
  | n + 1, h => by
    have ih := sp_fo_cnt (op := op) (a := a) (n := n) (fun v hv => h v (by omega))
    show _ = (if F n then op (sp_fo (fun a w => if F w then op a w else a) a n) n else _)
    cases hF : F n with
    | true =>
      rw [sp_cnt_t hF, if_pos rfl, ← ih]
      show op _ (E (sp_cnt F n)) = _
      rw [h n (by omega) hF]
    | false =>
      rw [sp_cnt_f hF, if_neg (by decide), ih]
theorem sp_cnt_hit {F : Nat → Bool} : ∀ {n j : Nat}, j < sp_cnt F n → ∃ v, v < n ∧ F v = true ∧ sp_cnt F v = j
  | 0, j, h => absurd h (Nat.not_lt_zero _)
  | n + 1, j, h => by
    by_cases c : j < sp_cnt F n
    · obtain ⟨v, a, b, d⟩ := sp_cnt_hit c
      exact ⟨v, by omega, b, d⟩
    · cases hF : F n with
      | true =>
        rw [sp_cnt_t hF] at h
        exact ⟨n, by omega, hF, by omega⟩
      | false =>
        rw [sp_cnt_f hF] at h
        exact absurd h c
/-- E lists the sets below M that F holds of -/
def sp_lists (F : Nat → Bool) (E : Nat → Nat) (M : Nat) : Prop := (∀ v, v < M → F v = true → E (sp_cnt F v) = v) ∧ ∀ j, j < sp_cnt F M → E j < M
theorem cl_find (hi : i = 34 ∨ i = 42) (hK : kn_c s i N D G S X V W A H) (hE : sp_env N D G S X) (hn : kn_n W A H) {t : Nat} (ht : N 135 2 = nI t) (ht9 : t ≤ 9) :
    ∃ r E, mX5_findSets s i 50 = some r ∧ (∀ a b, a ≠ 27 → ¬ (a = 24 ∧ b = 5) → r a b = s a b) ∧ r 24 5 = nI (sp_cnt (fun w => sp_fits N X D V A H W w t) (2 ^ D)) ∧ sp_lists (fun w => sp_fits N X D V A H W w t) E (2 ^ D) ∧
      ∀ j, j < sp_cnt (fun w => sp_fits N X D V A H W w t) (2 ^ D) → r 27 j = nI (E j) := by
  have h7 := hE.nD.2
  have hpow : 2 ^ D ≤ 128 := Nat.pow_le_pow_right (n := 2) (by decide) h7
  obtain ⟨F, hF⟩ : ∃ F : Nat → Bool, F = fun w => sp_fits N X D V A H W w t := ⟨_, rfl⟩
  rw [← hF]
  obtain ⟨r, h1, h2, h3, h4⟩ := bq_inv (fun n s k => mX5_findSets_L7 i 50 n (nI k) s) (2 ^ D) (fun k r => (∀ a b, a ≠ 27 → ¬ (a = 24 ∧ b = 5) → r a b = s a b) ∧ r 24 5 = nI (sp_cnt F k) ∧ ∀ v, v < k → F v = true → r 27 (sp_cnt F v) = nI v)
    (fun r => (∀ a b, a ≠ 27 → ¬ (a = 24 ∧ b = 5) → r a b = s a b) ∧ r 24 5 = nI (sp_cnt F (2 ^ D)) ∧ ∀ v, v < 2 ^ D → F v = true → r 27 (sp_cnt F v) = nI v) (by
    intro n k r hk ⟨a1, a2, a3⟩
    have hKr : kn_c r i N D G S X V W A H := hK.to hi (fun a z1 z2 z3 => funext fun b => a1 a b z2 (fun z => z1 z.1)) (a1 24 4 (by decide) (by decide))
    by_cases c : k = 2 ^ D
    · subst c
      refine Or.inl ⟨r, ?_, a1, a2, a3⟩
      simp only [mX5_findSets_L7, mX4_sets, hKr.1.nD]
      rw [bq_one_shl (by omega), Option.bind_some, if_pos (Int32.le_refl _)]
    · have hlt : k < 2 ^ D := by omega
      have hcl := sp_cnt_le F k
      have hfit := cl_fits hKr hE hn hlt ht9
      rw [show sp_fits N X D V A H W k t = F k by rw [hF]] at hfit
      simp only [mX5_findSets_L7, mX4_sets, hKr.1.nD]
      rw [bq_one_shl (by omega), Option.bind_some, if_neg (nI_ge hlt (by omega)), hKr.1.takes, ht, hfit, Option.bind_some, a2, bq_put (by omega) (by decide), Option.bind_some, Option.bind_some, nI_1]
      cases hk2 : F k with
      | false =>
        refine Or.inr ⟨hlt, r, ⟨a1, by rw [sp_cnt_f hk2]; exact a2, fun v hv hv2 => ?_⟩, ?_⟩
        · by_cases e : v = k
          · subst e; rw [hk2] at hv2; cases hv2
          · exact a3 v (by omega) hv2
        · rw [if_pos (show (if false = true then (1 : Int32) else 0) = 0 from rfl), Option.bind_some]
      | true =>
        refine Or.inr ⟨hlt, _, ⟨?_, ?_, ?_⟩, by rw [if_neg (show ¬ (if true = true then (1 : Int32) else 0) = 0 by decide), Option.bind_some]⟩
        · intro a b z1 z2
          rw [bq_up, if_neg z2, bq_up_o z1]
          exact a1 a b z1 z2
        · rw [bq_up, if_pos ⟨rfl, rfl⟩, bq_up_o (by decide), a2, nI_1, sp_cnt_t hk2]
        · intro v hv hv2
          rw [bq_up_o (by decide), bq_up]
          by_cases e : v = k
          · subst e; rw [if_pos ⟨rfl, rfl⟩]
          · have hlt2 : sp_cnt F v < sp_cnt F k := by
              have : ∀ m, v < m → sp_cnt F v < sp_cnt F m := by
                intro m
                induction m with
                | zero => intro h; omega
                | succ m ih =>
                  intro h
                  by_cases e2 : v = m
                  · subst e2; rw [sp_cnt_t hv2]; omega
                  · have := ih (by omega)
                    show _ < _ + _
                    omega
              exact this k (by omega)
            rw [if_neg (fun z => by omega)]
            exact a3 v (by omega) hv2) bo_fuel 0 (bo_up s 24 5 0) (Nat.zero_le _) (bq_fuel (by omega)) ⟨fun a b z1 z2 => by rw [bq_up, if_neg z2], by rw [bq_up, if_pos ⟨rfl, rfl⟩]; rfl, fun v hv => absurd hv (Nat.not_lt_zero _)⟩
  refine ⟨r, fun j => (r 27 j).toNatClampNeg, ?_, h2, h3, ⟨fun v hv hv2 => ?_, fun j hj => ?_⟩, fun j hj => ?_⟩
  · unfold mX5_findSets
    rw [Option.bind_some, show mX5_findSets_L7 i 50 bo_fuel 0 (bo_up s 24 5 0) = some r from h1, Option.bind_some]
  · show (r 27 (sp_cnt F v)).toNatClampNeg = v
    rw [h4 v hv hv2, nI_clamp (by omega)]
  · obtain ⟨v, b1, b2, b3⟩ := sp_cnt_hit hj
    show (r 27 j).toNatClampNeg < _
    rw [← b3, h4 v b1 b2, nI_clamp (by omega)]
    exact b1
  · obtain ⟨v, b1, b2, b3⟩ := sp_cnt_hit hj
    show r 27 j = nI (r 27 j).toNatClampNeg
    rw [← b3, h4 v b1 b2, nI_clamp (by omega)]
theorem sp_fo_and {E : Nat → Nat} {a k : Nat} : ∀ n, (sp_fo (fun x j => x &&& E j) a n).testBit k = (a.testBit k && sp_al (fun j => (E j).testBit k) n)
  | 0 => by simp [sp_fo, sp_al]
  | n + 1 => by
    show (_ &&& E n).testBit k = _
    rw [Nat.testBit_and, sp_fo_and n]
    show _ = (a.testBit k && (sp_al _ n && (E n).testBit k))
    rw [Bool.and_assoc]
theorem sp_al_get {b : Nat → Bool} : ∀ {n : Nat}, sp_al b n = true → ∀ k, k < n → b k = true := by
  intro n h k hk
  cases hb : b k with
  | true => rfl
  | false => rw [sp_al_cut hb hk] at h; cases h
theorem sp_fo_le {E : Nat → Nat} {M : Nat} : ∀ n, (∀ j, j < n → E j < 2 ^ M) → sp_fo (fun x j => x ||| E j) 0 n < 2 ^ M
  | 0, _ => Nat.two_pow_pos _
  | n + 1, h => Nat.or_lt_two_pow (sp_fo_le n (fun j hj => h j (by omega))) (h n (by omega))
theorem st_could (h : in_all σ) (p : Int32) : ∃ r σ1, mX10_could σ p = some (r, σ1) ∧ mX11_could σ1 p = some r ∧ in_all σ1 := by
  obtain ⟨D, G, S, X, g, hH, hN, hR⟩ := id h
  have h7 := hH.1.nD.2
  have hpow : 2 ^ D ≤ 128 := Nat.pow_le_pow_right (n := 2) (by decide) h7
  have hpos : 0 < 2 ^ D := Nat.two_pow_pos D
  unfold mX10_could
  rw [cl_rng, cl_preW hH]
  by_cases c : 0 ≤ p ∧ p ≤ 3
  · rw [if_pos c]
    cases ho : sp_open σ with
    | false =>
      refine ⟨_, σ, rfl, ?_, h⟩
      unfold mX11_could
      rw [rf_in (b := 0) (c := 3) (by decide +kernel) (by decide +kernel), if_pos c, Option.bind_some, if_neg bq_10, if_pos (sp_open_f ho)]
    | true =>
      rw [if_pos rfl]
      obtain ⟨q, rfl, -, hq⟩ := bq_rng (a := 0) (b := 3) c.1 c.2 (by decide) (by decide)
      obtain ⟨W, A, H, hn, hc, hr⟩ := kn_of hH hN hR
      obtain ⟨t, ht, -, ht9⟩ := hH.1.takes
      obtain ⟨s, E, x1, x2, x3, x4, x5⟩ := cl_find (bo_inn_ok (σ 0 9)) hc hH.1 hn ht ht9
      obtain ⟨F, hF⟩ : ∃ F : Nat → Bool, F = fun w => sp_fits σ X D (σ 144) A H W w t := ⟨_, rfl⟩
      rw [← hF] at x3 x4 x5
      obtain ⟨C, hC⟩ : ∃ C, C = sp_cnt F (2 ^ D) := ⟨_, rfl⟩
      rw [← hC] at x3 x5
      have x4a := x4.1
      have x4b := x4.2
      rw [← hC] at x4b
      have hC128 : C ≤ 128 := by rw [hC]; exact Nat.le_trans (sp_cnt_le _ _) hpow
      have row : ∀ a, a ≠ 27 → a ≠ 24 → s a = σ a := fun a z1 z2 => funext fun b => x2 a b z1 (fun z => z2 z.1)
      have hrs : kn_r s σ (σ 144) W A H := hr.to' (fun a z1 => row a (by omega) (by omega))
      -- the reference
      obtain ⟨o, ho2⟩ : ∃ o, o = fun k => sp_fo (fun a w => if F w then a ||| w else a) 0 k := ⟨_, rfl⟩
      obtain ⟨an, han⟩ : ∃ an, an = fun k => sp_fo (fun a w => if F w then a &&& w else a) (2 ^ D - 1) k := ⟨_, rfl⟩
      obtain ⟨y, y1, y2⟩ := bq_inv (fun n (a : Int32 × Int32 × Int32 × Int32) k => mX11_could_L51 s (nI q) (nI (2 ^ D - 1)) n a.1 a.2.1 a.2.2.1 a.2.2.2 (nI k)) (2 ^ D)
        (fun k a => a = (nI (sp_cnt F k), (if sp_cnt F k = 0 then -1 else nI (E 0)), nI (an k), nI (sp_set (fun j => !(o k).testBit j) D))) (fun r => r = (nI C, (if C = 0 then -1 else nI (E 0)), nI (an (2 ^ D)), nI (sp_set (fun j => !(o (2 ^ D)).testBit j) D))) (by
        intro n k a hk ha
        subst ha
        by_cases e : k = 2 ^ D
        · subst e
          refine Or.inl ⟨_, by simp only [mX11_could_L51]; rw [if_pos (nI_lt (by omega) (by omega))], by rw [hC]⟩
        · have hlt : k < 2 ^ D := by omega
          have hcl := sp_cnt_le F k
          have hfit := rf_fits hrs hH.1 hn (w := k) (by omega) ht9
          rw [show sp_fits σ X D (σ 144) A H W k t = F k by rw [hF]] at hfit
          have en : an (k + 1) = if F k then an k &&& k else an k := by rw [han]; rfl
          have eo : o (k + 1) = if F k then o k ||| k else o k := by rw [ho2]; rfl
          refine Or.inr ⟨hlt, _, rfl, ?_⟩
          simp only [mX11_could_L51]
          rw [if_neg (nI_nlt (by omega) (by omega)), row 135 (by decide) (by decide), ht, hfit, Option.bind_some, nI_1, en, eo]
          cases hk2 : F k with
          | false =>
            rw [if_pos (show (if false = true then (1 : Int32) else 0) = 0 from rfl), sp_cnt_f hk2, Option.bind_some, nI_1]
            rfl
          | true =>
            rw [if_neg (show ¬ (if true = true then (1 : Int32) else 0) = 0 by decide), sp_cnt_t hk2, if_pos rfl, if_pos rfl, if_neg (show ¬ sp_cnt F k + 1 = 0 by omega), fa_and, bq_not D hlt (by omega) (sp_set_lt _ _)]
            have e1 : (if nI (sp_cnt F k) = 0 then some (nI k) else some (if sp_cnt F k = 0 then -1 else nI (E 0))) = some (nI (E 0)) := by
              by_cases z : sp_cnt F k = 0
              · have := x4a k hlt hk2
                rw [z] at this
                rw [if_pos (by rw [z]; rfl), this]
              · rw [if_neg (fun y => z ((bq_eq0 (by omega)).mp y)), if_neg z]
            have e2 : sp_set (fun j => (sp_set (fun j => !(o k).testBit j) D).testBit j && !k.testBit j) D = sp_set (fun j => !(o k ||| k).testBit j) D := by
              refine sp_set_cong (fun j hj => ?_)
              rw [sp_set_bit, Nat.testBit_or]
              simp [hj]
            rw [e1, e2]
            simp only [Option.bind_some, nI_1]) bo_fuel 0 (nI 0, -1, nI (2 ^ D - 1), nI (2 ^ D - 1)) (Nat.zero_le _) (bq_fuel (by omega)) (by
          refine Prod.ext rfl (Prod.ext rfl (Prod.ext (by rw [han]; rfl) ?_))
          show nI (2 ^ D - 1) = nI (sp_set (fun j => !(o 0).testBit j) D)
          congr 1
          apply Nat.eq_of_testBit_eq
          intro j
          rw [Nat.testBit_two_pow_sub_one, sp_set_bit, ho2]
          show _ = (decide (j < D) && !Nat.testBit 0 j)
          rw [Nat.zero_testBit]
          simp)
      have y3 : mX11_could_L51 s (nI q) (nI (2 ^ D - 1)) bo_fuel 0 (-1) (nI (2 ^ D - 1)) (nI (2 ^ D - 1)) 0 = some y := y1
      have eo : o (2 ^ D) = sp_fo (fun a j => a ||| E j) 0 C := by rw [ho2, hC]; exact (sp_fo_cnt x4a).symm
      have ea : an (2 ^ D) = sp_fo (fun a j => a &&& E j) (2 ^ D - 1) C := by rw [han, hC]; exact (sp_fo_cnt x4a).symm
      have ref : mX11_could s (nI q) = some (if nI q = 0 then nI C else if nI q = 1 then (if C = 0 then -1 else nI (E 0)) else if C = 0 then 0 else if nI q = 2 then nI (an (2 ^ D)) else nI (sp_set (fun j => !(o (2 ^ D)).testBit j) D)) := by
        unfold mX11_could
        rw [rf_in (b := 0) (c := 3) (by decide +kernel) (by decide +kernel), if_pos c, Option.bind_some, if_neg bq_10, row 135 (by decide) (by decide), if_neg (sp_open_t ho), hH.1.nD.1, bq_one_shl (by omega), show nI (2 ^ D) - 1 = nI (2 ^ D - 1) from pk_sub (b := 1) (by omega), y3, Option.bind_some, y2]
        dsimp only
        by_cases z0 : nI q = 0
        · rw [if_pos z0, if_pos z0]
        · rw [if_neg z0, if_neg z0]
          by_cases z1 : nI q = 1
          · rw [if_pos z1, if_pos z1]
          · rw [if_neg z1, if_neg z1]
            by_cases z2 : C = 0
            · rw [if_pos (by rw [z2]; rfl), if_pos z2]
            · rw [if_neg (fun z => z2 ((bq_eq0 (by omega)).mp z)), if_neg z2]
              by_cases z3 : nI q = 2
              · rw [if_pos z3, if_pos z3]
              · rw [if_neg z3, if_neg z3]
      have least : mX5_leastSet s = some (if C = 0 then -1 else nI (E 0)) := by
        unfold mX5_leastSet
        rw [x3]
        by_cases z : C = 0
        · rw [if_pos (by rw [z]; exact Int32.le_refl _), if_pos z]
        · rw [if_neg (nI_nle (by omega) (by omega)), if_neg z, show (0 : Int32) = nI 0 from rfl, bq_at (by omega) (by decide), Option.bind_some, x5 0 (by omega)]
      have hin : in_all s := by
        refine in_all.scr h (fun a b hs => ?_)
        exact x2 a b (fun z => hs (by unfold in_scr; omega)) (fun z => hs (by unfold in_scr; omega))
      refine ⟨_, s, ?_, ref, hin⟩
      rw [x1, Option.bind_some]
      by_cases z0 : nI q = 0
      · rw [if_pos z0, if_pos z0, x3]
      · rw [if_neg z0, if_neg z0]
        by_cases z1 : nI q = 1
        · rw [if_pos z1, if_pos z1, least]
          rfl
        · rw [if_neg z1, if_neg z1]
          by_cases z2 : nI q = 2
          · rw [if_pos z2, if_pos z2]
            unfold mX5_sureIn
            rw [least, Option.bind_some]
            by_cases zC : C = 0
            · obtain ⟨n, hn⟩ : ∃ n, bo_fuel = n + 1 := ⟨bo_fuel - 1, by have := bo_fuel_le; omega⟩
              rw [hn]
              simp only [mX5_sureIn_L7, x3]
              rw [if_pos (show nI C ≤ 0 by rw [zC]; exact Int32.le_refl _), Option.bind_some, if_pos (show nI C ≤ 0 by rw [zC]; exact Int32.le_refl _), if_pos zC]
              rfl
            · rw [if_neg zC, if_neg zC]
              obtain ⟨b, hb, hbq⟩ := bq_inv (fun n a k => mX5_sureIn_L7 s n a (nI k)) C (fun k a => a = nI (sp_fo (fun a j => a &&& E j) (E 0) k)) (fun r => r = nI (sp_fo (fun a j => a &&& E j) (E 0) C)) (by
                intro n k a hk ha
                subst ha
                by_cases e : k = C
                · subst e
                  exact Or.inl ⟨_, by simp only [mX5_sureIn_L7, x3]; rw [if_pos (Int32.le_refl _)], rfl⟩
                · refine Or.inr ⟨by omega, _, rfl, ?_⟩
                  simp only [mX5_sureIn_L7, x3]
                  rw [if_neg (nI_ge (by omega) (by omega)), bq_at (by omega) (by decide), Option.bind_some, x5 k (by omega), fa_and, nI_1]
                  rfl) bo_fuel 0 (nI (E 0)) (Nat.zero_le _) (bq_fuel (by omega)) rfl
              rw [show mX5_sureIn_L7 s bo_fuel (nI (E 0)) 0 = some b from hb, hbq, Option.bind_some, x3, if_neg (nI_nle (by omega) (by omega)), ea]
              have : sp_fo (fun a j => a &&& E j) (E 0) C = sp_fo (fun a j => a &&& E j) (2 ^ D - 1) C := by
                apply Nat.eq_of_testBit_eq
                intro j
                rw [sp_fo_and, sp_fo_and, Nat.testBit_two_pow_sub_one]
                cases hal : sp_al (fun k => (E k).testBit j) C with
                | false => simp
                | true =>
                  have e0 := sp_al_get hal 0 (by omega)
                  have : j < D := by
                    by_cases z : j < D
                    · exact z
                    · exfalso
                      have := Nat.testBit_lt_two_pow (Nat.lt_of_lt_of_le (x4b 0 (by omega)) (Nat.pow_le_pow_right (n := 2) (by decide) (show D ≤ j by omega)))
                      rw [this] at e0; cases e0
                  simp [this, e0]
              rw [this]
              rfl
          · rw [if_neg z2, if_neg z2]
            unfold mX5_sureOut
            rw [row 0 (by decide) (by decide)]
            obtain ⟨b, hb, hbq⟩ := bq_inv (fun n a k => mX5_sureOut_L4 s (bo_inn (σ 0 9)) n a (nI k)) C (fun k a => a = nI (sp_fo (fun a j => a ||| E j) 0 k)) (fun r => r = nI (sp_fo (fun a j => a ||| E j) 0 C)) (by
              intro n k a hk ha
              subst ha
              by_cases e : k = C
              · subst e
                exact Or.inl ⟨_, by simp only [mX5_sureOut_L4, x3]; rw [if_pos (Int32.le_refl _)], rfl⟩
              · refine Or.inr ⟨by omega, _, rfl, ?_⟩
                simp only [mX5_sureOut_L4, x3]
                rw [if_neg (nI_ge (by omega) (by omega)), bq_at (by omega) (by decide), Option.bind_some, x5 k (by omega), fa_or, nI_1]
                rfl) bo_fuel 0 (nI 0) (Nat.zero_le _) (bq_fuel (by omega)) rfl
            rw [show mX5_sureOut_L4 s (bo_inn (σ 0 9)) bo_fuel 0 0 = some b from hb, hbq, Option.bind_some, x3]
            by_cases zC : C = 0
            · rw [if_pos (show nI C ≤ 0 by rw [zC]; exact Int32.le_refl _), if_pos zC]
              rfl
            · rw [if_neg (nI_nle (by omega) (by omega)), if_neg zC]
              unfold mX4_sets
              have i27 : bo_inn (σ 0 9) ≠ 27 ∧ bo_inn (σ 0 9) ≠ 24 := by rcases bo_inn_ok (σ 0 9) with z | z <;> omega
              rw [row _ i27.1 i27.2, hH.2.1.nD, bq_one_shl (by omega), Option.bind_some, show nI (2 ^ D) - 1 = nI (2 ^ D - 1) from pk_sub (b := 1) (by omega), bq_not D (sp_fo_le C x4b) (by omega) (by omega), Option.bind_some, eo]
              congr 3
              refine sp_set_cong (fun j hj => ?_)
              rw [Nat.testBit_two_pow_sub_one]
              simp [hj]
  · rw [if_neg c]
    refine ⟨_, σ, rfl, ?_, h⟩
    unfold mX11_could
    rw [rf_in (b := 0) (c := 3) (by decide +kernel) (by decide +kernel), if_neg c]
    rfl
end COULD
