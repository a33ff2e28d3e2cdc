/-! vespers -/
section VES
variable {σ s N : bo_M} {D G S X g : Nat} {V : Nat → Int32}
theorem sp_set_and (b c : Nat → Bool) (n : Nat) : sp_set b n &&& sp_set c n = sp_set (fun k => b k && c k) n := by
  apply Nat.eq_of_testBit_eq
  intro k
  rw [Nat.testBit_and, sp_set_bit, sp_set_bit, sp_set_bit]
  by_cases h : k < n <;> simp [h]
def sp_pint (N : bo_M) (V : Nat → Int32) (D w : Nat) : Nat := sp_cnt (fun k => w.testBit k && !decide (V k = 1)) D + sp_cnt (fun k => w.testBit k && sp_fullb N V k) D
def sp_rw (N : bo_M) (V : Nat → Int32) (D w : Nat) : Nat := sp_cnt (fun k => (w.testBit k && sp_turn N V (V 21) k) || sp_ring N V k) D
def sp_ves (c : Nat → Nat) (h : Nat → Bool) : Nat → Option (Nat × Nat)
  | 0 => none
  | w + 1 => match sp_ves c h w with
    | none => if h w then some (c w, w) else none
    | some (b, t) => if c w < b then (if h w then some (c w, w) else some (b, t)) else some (b, t)
theorem sp_ves_succ (c : Nat → Nat) (h : Nat → Bool) (w : Nat) : sp_ves c h (w + 1) = match sp_ves c h w with
    | none => if h w then some (c w, w) else none
    | some (b, t) => if c w < b then (if h w then some (c w, w) else some (b, t)) else some (b, t) := rfl
theorem sp_ves_le {c : Nat → Nat} {h : Nat → Bool} {B : Nat} (hc : ∀ w, c w ≤ B) : ∀ {w b t : Nat}, sp_ves c h w = some (b, t) → b ≤ B ∧ t < w
  | 0, _, _, z => by cases z
  | w + 1, b, t, z => by
    unfold sp_ves at z
    cases e : sp_ves c h w with
    | none =>
      rw [e] at z
      dsimp only at z
      split at z
      · cases z; exact ⟨hc w, by omega⟩
      · cases z
    | some x =>
      obtain ⟨b', t'⟩ := x
      have ih := sp_ves_le hc e
      rw [e] at z
      dsimp only at z
      split at z
      · split at z
        · cases z; exact ⟨hc w, by omega⟩
        · cases z; exact ⟨ih.1, by omega⟩
      · cases z; exact ⟨ih.1, by omega⟩
theorem rf_cost (hA : sp_ag s N) (hE : sp_env N D G S X) (hW : sp_wf D 90096 (s 144) g) {d : Nat} (hd : d < D) :
    mX11_costOf s (nI d) = some (nI ((if !decide (s 144 d = 1) then 1 else 0) + (if sp_fullb N (s 144) d then 1 else 0))) := by
  have h7 := hE.nD.2
  unfold mX11_costOf
  rw [rf_ld7 (by omega), Option.bind_some, bq_ld (by omega) (by decide), Option.bind_some, rf_first, Option.bind_some, rf_ld0 (by omega), show s 137 d = N 137 d from hA.2 137 (by decide) (by decide) d]
  have e1 : (if s 144 (7 + d) < N 137 d then some (0 : Int32) else if (if sp_first (s 144) then (1 : Int32) else 0) = 0 then some 1 else some 0) = some (if sp_fullb N (s 144) d then 1 else 0) := by
    unfold sp_fullb
    by_cases c : s 144 (7 + d) < N 137 d
    · rw [if_pos c]; simp [c]
    · rw [if_neg c]
      cases sp_first (s 144) <;> simp [c]
  rw [e1]
  simp only [Option.bind_some]
  obtain ⟨v, hv, -, hv2⟩ := (hW.dr d (by omega)).1
  rw [hv]
  rcases (show v = 0 ∨ v = 1 by omega) with e | e <;> subst e
  · rw [if_pos (show nI 0 = 0 from rfl)]
    cases sp_fullb N (s 144) d <;> decide
  · rw [if_neg (show ¬ nI 1 = 0 by decide)]
    cases sp_fullb N (s 144) d <;> decide
theorem rf_hasb {w k : Nat} (hw : w < 2 ^ 31) (hk : k < 32) : mX11_has s (nI w) (nI k) = some (if w.testBit k then 1 else 0) := by
  unfold mX11_has
  rw [bq_bit hw hk]
  cases w.testBit k
  · rw [if_neg (by decide)]; rfl
  · rw [if_pos (by decide)]; rfl
theorem rf_costs (hA : sp_ag s N) (hE : sp_env N D G S X) (hW : sp_wf D 90096 (s 144) g) {w : Nat} (hw : w < 2 ^ 31) : mX11_costs s (nI w) = some (nI (sp_pint N (s 144) D w)) := by
  have h7 := hE.nD.2
  unfold mX11_costs
  obtain ⟨b, hb, hq⟩ := bq_inv (fun n a k => mX11_costs_L4 s (nI w) n a (nI k)) D (fun k a => a = nI (sp_pint N (s 144) k w)) (fun r => r = nI (sp_pint N (s 144) D w)) (by
    intro n k a hk ha
    subst ha
    have eD : s 135 4 = nI D := by rw [hA.1 4 (by decide)]; exact hE.nD.1
    by_cases hkD : k = D
    · subst hkD
      exact Or.inl ⟨_, by simp only [mX11_costs_L4, eD]; rw [if_pos (Int32.le_refl _)], rfl⟩
    · have hlt : k < D := by omega
      refine Or.inr ⟨hlt, _, rfl, ?_⟩
      simp only [mX11_costs_L4, eD]
      rw [if_neg (nI_ge hlt (by omega)), rf_hasb hw (by omega), Option.bind_some, rf_cost hA hE hW hlt, nI_1]
      unfold sp_pint
      show _ = mX11_costs_L4 s (nI w) n (nI (sp_cnt _ k + (if (w.testBit k && !decide (s 144 k = 1)) then 1 else 0) + (sp_cnt _ k + (if (w.testBit k && sp_fullb N (s 144) k) then 1 else 0)))) _
      cases w.testBit k
      · rw [if_pos (show (if false = true then (1 : Int32) else 0) = 0 from rfl)]
        simp only [Option.bind_some, Bool.false_and]
        congr 1
        rw [show (0 : Int32) = nI 0 from rfl, nI_add]
        congr 1
      · rw [if_neg (show ¬ (if true = true then (1 : Int32) else 0) = 0 by decide)]
        simp only [Option.bind_some, Bool.true_and]
        rw [nI_add]
        congr 2
        omega) bo_fuel 0 (nI 0) (Nat.zero_le _) (bq_fuel (by omega)) rfl
  rw [← nI_0, show mX11_costs_L4 s (nI w) bo_fuel (nI 0) (nI 0) = some b from hb, hq]
  rfl
theorem rf_rungWith (hA : sp_ag s N) (hE : sp_env N D G S X) {w : Nat} (hw : w < 2 ^ 31) : mX11_rungWith s (nI w) = some (nI (sp_rw N (s 144) D w)) := by
  have h7 := hE.nD.2
  unfold mX11_rungWith
  obtain ⟨b, hb, hq⟩ := bq_inv (fun n a k => mX11_rungWith_L4 s (nI w) n a (nI k)) D (fun k a => a = nI (sp_rw N (s 144) k w)) (fun r => r = nI (sp_rw N (s 144) D w)) (by
    intro n k a hk ha
    subst ha
    have eD : s 135 4 = nI D := by rw [hA.1 4 (by decide)]; exact hE.nD.1
    by_cases hkD : k = D
    · subst hkD
      exact Or.inl ⟨_, by simp only [mX11_rungWith_L4, eD]; rw [if_pos (Int32.le_refl _)], rfl⟩
    · have hlt : k < D := by omega
      refine Or.inr ⟨hlt, _, rfl, ?_⟩
      simp only [mX11_rungWith_L4, eD]
      rw [if_neg (nI_ge hlt (by omega)), rf_hasb hw (by omega), Option.bind_some, show bo_ld 107 s 144 21 = some (s 144 21) from rf_ldk 21 (by decide), Option.bind_some, rf_turn hA hE hlt, Option.bind_some, rf_ring hA hE hlt, Option.bind_some, nI_1]
      unfold sp_rw
      show _ = mX11_rungWith_L4 s (nI w) n (nI (sp_cnt _ k + (if ((w.testBit k && sp_turn N (s 144) (s 144 21) k) || sp_ring N (s 144) k) then 1 else 0))) _
      cases w.testBit k <;> cases sp_turn N (s 144) (s 144 21) k <;> cases sp_ring N (s 144) k <;> simp <;> first | rfl | exact congrArg (fun z => mX11_rungWith_L4 s (nI w) n z (nI (k + 1))) (nI_1 _)) bo_fuel 0 (nI 0) (Nat.zero_le _) (bq_fuel (by omega)) rfl
  rw [← nI_0, show mX11_rungWith_L4 s (nI w) bo_fuel (nI 0) (nI 0) = some b from hb, hq]
  rfl
theorem sp_pint_le (w : Nat) (h7 : D ≤ 7) : sp_pint N V D w ≤ 14 := by
  unfold sp_pint
  have a := sp_cnt_le (fun k => w.testBit k && !decide (V k = 1)) D
  have b := sp_cnt_le (fun k => w.testBit k && sp_fullb N V k) D
  omega
theorem st_vespers (h : in_all σ) (p q : Int32) : ∃ r, mX10_vespers σ p q = some r ∧ mX11_vespers σ p q = some r := by
  obtain ⟨D, G, S, X, g, hH, hN, hR⟩ := h
  have h7 := hH.1.nD.2
  have hg := hN.1.ng.1
  have hgB := hN.1.ng.2
  have c0 : (if p < 1 then some (1 : Int32) else if 16 < p then some 1 else if q < 0 then some 1 else if q ≤ 1 then some 0 else some 1) = some (if (1 ≤ p ∧ p ≤ 16) ∧ (0 ≤ q ∧ q ≤ 1) then 0 else 1) := by
    by_cases h1 : p < 1
    · rw [if_pos h1, if_neg (fun z => bq_nlt.mpr z.1.1 h1)]
    · rw [if_neg h1]
      by_cases h2 : 16 < p
      · rw [if_pos h2, if_neg (fun z => bq_nlt.mpr z.1.2 h2)]
      · rw [if_neg h2, cl_rng]
        by_cases h3 : 0 ≤ q ∧ q ≤ 1
        · rw [if_pos h3, if_pos ⟨⟨bq_nlt.mp h1, bq_nlt.mp h2⟩, h3⟩]
        · rw [if_neg h3, if_neg (fun z => h3 z.2)]
  unfold mX10_vespers mX11_vespers
  rw [c0, Option.bind_some, cl_refused hH _, Option.bind_some, rf_in (b := 1) (c := 16) (by decide +kernel) (by decide +kernel), Option.bind_some, rf_in (b := 0) (c := 1) (by decide +kernel) (by decide +kernel), Option.bind_some]
  by_cases c1 : 1 ≤ p ∧ p ≤ 16
  · rw [if_pos c1]
    by_cases c2 : 0 ≤ q ∧ q ≤ 1
    · rw [if_pos (show (1 ≤ p ∧ p ≤ 16) ∧ (0 ≤ q ∧ q ≤ 1) from ⟨c1, c2⟩), if_pos c2, if_neg bq_10, if_neg bq_10]
      cases ho : sp_open σ with
      | false =>
        rw [if_neg (show ¬ (if false = true then (0 : Int32) else -1000000003) = 0 by decide), if_pos (sp_open_f ho)]
        exact ⟨_, rfl, rfl⟩
      | true =>
        rw [if_pos (show (if true = true then (0 : Int32) else -1000000003) = 0 from rfl), if_neg (sp_open_t ho)]
        obtain ⟨a, rfl, ha1, ha2⟩ := bq_rng (a := 1) (b := 16) c1.1 c1.2 (by decide) (by decide)
        have hT : ∀ d, d < 7 → σ 52 d = σ 144 (14 + d) := fun d hd => (hN.2.dr d hd).2
        have hP : ∀ d, d < 7 → σ 51 d = σ 144 (7 + d) := fun d hd => (hN.2.dr d hd).1
        have h50 : σ 50 4 = σ 144 21 := hN.2.gone
        obtain ⟨V, hV⟩ : ∃ V, V = σ 144 := ⟨_, rfl⟩
        rw [← hV] at hT hP h50 hg
        have hN1 : sp_wf D 90096 V g := by rw [hV]; exact hN.1
        have hN2 : sp_rep σ 50 D V g := by rw [hV]; exact hN.2
        rw [cl_due (e := 50) hH.2.1 hH.1 hT, Option.bind_some, cl_full (e := 50) hH.2.1 hH.1 h50 hP, Option.bind_some, cl_thirsty hH.2.1 hH.1 hN2, Option.bind_some, h50]
        obtain ⟨c, hc⟩ : ∃ c, c = sp_pint σ V D := ⟨_, rfl⟩
        obtain ⟨hh, hhh⟩ : ∃ hh : Nat → Bool, hh = fun w => decide (a ≤ sp_heard σ X V g (sp_rw σ V D w)) := ⟨_, rfl⟩
        have hc14 : ∀ w, c w ≤ 14 := fun w => by rw [hc]; exact sp_pint_le w h7
        have hrw : ∀ w, sp_rw σ V D w ≤ 7 := fun w => Nat.le_trans (sp_cnt_le _ _) h7
        have hhi : ∀ w, (nI (sp_heard σ X V g (sp_rw σ V D w)) < nI a) = (hh w = false) := by
          intro w
          have := sp_heard_le hH.1 (V := V) (g := g) (r := sp_rw σ V D w)
          have h2 := hrw w
          rw [hhh]
          apply propext
          constructor
          · intro z
            refine decide_eq_false (fun y => ?_)
            exact nI_nlt y (by omega) z
          · intro z
            exact nI_lt (by have := of_decide_eq_false z; omega) (by omega)
        have hpow : 2 ^ D ≤ 128 := Nat.pow_le_pow_right (n := 2) (by decide) h7
        -- the class
        obtain ⟨b, hb, hq⟩ := bq_inv (fun n (x : Int32 × Int32) k => mX10_vespers_L91 σ (nI a) q (nI (sp_set (sp_turn σ V (V 21)) D)) (nI (sp_set (sp_fullb σ V) D)) (nI (sp_set (sp_ring σ V) D)) n x.1 x.2 (nI k)) (2 ^ D)
          (fun k x => x = match sp_ves c hh k with | none => (-1, -1) | some (b, t) => (nI b, nI t)) (fun r => r = match sp_ves c hh (2 ^ D) with | none => (-1, -1) | some (b, t) => (nI b, nI t)) (by
          intro n k x hk hx
          subst hx
          by_cases hkD : k = 2 ^ D
          · subst hkD
            refine Or.inl ⟨_, ?_, rfl⟩
            simp only [mX10_vespers_L91, mX4_sets, hH.2.1.nD]
            rw [bq_one_shl (by omega), Option.bind_some, if_pos (Int32.le_refl _)]
          · have hlt : k < 2 ^ D := by omega
            refine Or.inr ⟨hlt, _, rfl, ?_⟩
            have e7 : mJ6_bitCount_0f7a4 σ (nI k &&& (σ 50 5 ^^^ (-1))) = some (nI (sp_cnt (fun k_1 => k.testBit k_1 && !decide (V k_1 = 1)) D)) := by
              rw [hN2.ins, bq_not D (sp_set_lt _ _) (by omega) hlt, bq_popset h7]
              congr 2
              exact sp_cnt_cong (fun j hj => by rw [sp_set_bit]; simp [hj])
            have e8 : mJ6_bitCount_0f7a4 σ (nI k &&& nI (sp_set (sp_fullb σ V) D)) = some (nI (sp_cnt (fun k_1 => k.testBit k_1 && sp_fullb σ V k_1) D)) := by
              rw [fa_and, show k &&& sp_set (sp_fullb σ V) D = sp_set (fun j => k.testBit j && sp_fullb σ V j) D by rw [← sp_set_and, sp_set_self hlt], bq_popset h7]
            have e9 : mJ6_bitCount_0f7a4 σ (nI (sp_set (sp_turn σ V (V 21)) D) &&& (nI (sp_set (sp_ring σ V) D) ||| nI k)) = some (nI (sp_rw σ V D k)) := by
              rw [fa_or, fa_and, show sp_set (sp_turn σ V (V 21)) D &&& (sp_set (sp_ring σ V) D ||| k) = sp_set (fun j => sp_turn σ V (V 21) j && (sp_ring σ V j || k.testBit j)) D by rw [← sp_set_and, ← sp_set_or, sp_set_self hlt], bq_popset h7]
              congr 2
              unfold sp_rw
              refine sp_cnt_cong (fun j hj => ?_)
              unfold sp_ring
              cases sp_turn σ V (V 21) j <;> simp [Bool.or_comm]
            have ec : nI (sp_cnt (fun k_1 => k.testBit k_1 && !decide (V k_1 = 1)) D) + nI (sp_cnt (fun k_1 => k.testBit k_1 && sp_fullb σ V k_1) D) = nI (c k) := by rw [nI_add, hc]; rfl
            simp only [mX10_vespers_L91, mX4_sets, hH.2.1.nD]
            rw [bq_one_shl (by omega), Option.bind_some, if_neg (nI_ge hlt (by omega)), e7, Option.bind_some, e8, Option.bind_some, e9, Option.bind_some]
            simp only [cl_heardOf hH.2.1 hH.1 hN2 hg (by omega) (show sp_rw σ V D k < 2 ^ 30 by have := hrw k; omega), Option.bind_some, ec, hhi, nI_1]
            rw [sp_ves_succ]
            cases e : sp_ves c hh k with
            | none =>
              dsimp only
              rw [if_pos rfl]
              cases hh k
              · rw [if_pos rfl]; rfl
              · rw [if_neg (by decide)]; rfl
            | some y =>
              obtain ⟨b, t⟩ := y
              have := sp_ves_le hc14 e
              have hck := hc14 k
              dsimp only
              rw [if_neg (show ¬ nI b = -1 from fun z => nI_pos (n := b) (by omega) (by rw [z]; decide))]
              by_cases hcb : c k < b
              · rw [if_neg (nI_ge hcb (by omega)), if_pos hcb]
                cases hh k
                · rw [if_pos rfl]; rfl
                · rw [if_neg (by decide)]; rfl
              · rw [if_pos (nI_le (by omega) (by omega)), if_neg hcb]
                rfl) bo_fuel 0 (-1, -1) (Nat.zero_le _) (bq_fuel (by omega)) rfl
        rw [show mX10_vespers_L91 σ (nI a) q (nI (sp_set (sp_turn σ V (V 21)) D)) (nI (sp_set (sp_fullb σ V) D)) (nI (sp_set (sp_ring σ V) D)) bo_fuel (-1) (-1) 0 = some b from hb, hq, Option.bind_some]
        -- the reference
        obtain ⟨b2, hb2, hq2⟩ := bq_inv (fun n (x : Int32 × Int32) k => mX11_vespers_L46 σ (nI a) q n x.1 x.2 (nI k)) (2 ^ D)
          (fun k x => x = match sp_ves c hh k with | none => (-1, 100000) | some (b, t) => (nI t, nI b)) (fun r => r = match sp_ves c hh (2 ^ D) with | none => (-1, 100000) | some (b, t) => (nI t, nI b)) (by
          intro n k x hk hx
          subst hx
          by_cases hkD : k = 2 ^ D
          · subst hkD
            refine Or.inl ⟨_, ?_, rfl⟩
            simp only [mX11_vespers_L46, hH.1.nD.1]
            rw [bq_one_shl (by omega), if_pos (Int32.le_refl _)]
          · have hlt : k < 2 ^ D := by omega
            refine Or.inr ⟨hlt, _, rfl, ?_⟩
            have f1 := rf_costs sp_ag.rf hH.1 hN.1 (w := k) (by omega)
            have f2 := rf_rungWith sp_ag.rf hH.1 (w := k) (by omega)
            rw [← hV] at f1 f2
            have f3 := rf_heard sp_ag.rf hH.1 hN.1.rain hN.1.ng.1 (by omega) (show sp_rw σ V D k < 2 ^ 30 by have := hrw k; omega)
            rw [← hV] at f3
            simp only [mX11_vespers_L46, hH.1.nD.1]
            rw [bq_one_shl (by omega), if_neg (nI_ge hlt (by omega)), f1, Option.bind_some, f2, Option.bind_some, f3, Option.bind_some, ← hc, nI_1]
            simp only [hhi]
            have hck := hc14 k
            rw [sp_ves_succ]
            cases e : sp_ves c hh k with
            | none =>
              dsimp only
              rw [if_neg (show ¬ (100000 : Int32) ≤ nI (c k) from nI_ge (b := 100000) (by omega) (by decide))]
              cases hh k
              · rw [if_pos rfl]; rfl
              · rw [if_neg (by decide)]; rfl
            | some y =>
              obtain ⟨b, t⟩ := y
              have := sp_ves_le hc14 e
              dsimp only
              by_cases hcb : c k < b
              · rw [if_neg (nI_ge hcb (by omega)), if_pos hcb]
                cases hh k
                · rw [if_pos rfl]; rfl
                · rw [if_neg (by decide)]; rfl
              · rw [if_pos (nI_le (by omega) (by omega)), if_neg hcb]
                rfl) bo_fuel 0 (-1, 100000) (Nat.zero_le _) (bq_fuel (by omega)) rfl
        rw [show mX11_vespers_L46 σ (nI a) q bo_fuel (-1) 100000 0 = some b2 from hb2, hq2, Option.bind_some]
        cases e : sp_ves c hh (2 ^ D) with
        | none =>
          dsimp only
          rw [if_pos (show (-1 : Int32) < 0 by decide)]
          refine ⟨_, ?_, rfl⟩
          split <;> rfl
        | some y =>
          obtain ⟨b, t⟩ := y
          have := sp_ves_le hc14 e
          dsimp only
          rw [if_neg (nI_pos (by omega))]
          obtain ⟨m, rfl, -, hm⟩ := bq_rng (a := 0) (b := 1) c2.1 c2.2 (by decide) (by decide)
          rcases (show m = 0 ∨ m = 1 by omega) with z | z <;> subst z
          · rw [if_pos (show nI 0 = 0 from rfl), if_neg (show ¬ nI 0 = 1 by decide)]
            exact ⟨_, rfl, rfl⟩
          · rw [if_neg (show ¬ nI 1 = 0 by decide), if_pos (show nI 1 = 1 from rfl)]
            exact ⟨_, rfl, rfl⟩
    · rw [if_neg (show ¬ ((1 ≤ p ∧ p ≤ 16) ∧ (0 ≤ q ∧ q ≤ 1)) from fun z => c2 z.2), if_neg c2, if_neg bq_10, if_pos bq_00, if_neg (show ¬ (-1000000002 : Int32) = 0 by decide)]
      exact ⟨_, rfl, rfl⟩
  · rw [if_neg (show ¬ ((1 ≤ p ∧ p ≤ 16) ∧ (0 ≤ q ∧ q ≤ 1)) from fun z => c1 z.1), if_neg c1, if_pos bq_00, if_neg (show ¬ (-1000000002 : Int32) = 0 by decide)]
    exact ⟨_, rfl, rfl⟩
end VES
