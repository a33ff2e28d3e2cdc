/-! signals, sextons -/
section CLAUSES3
variable {σ σ' s N : bo_M} {T : Nat → Nat} {m a i D G S X : Nat}
theorem sig_any (h14 : s i 14 = nI S) (h5 : S ≤ 5) (v : Int32) : ∃ r, mX4_signalsOf s i v = some r := by
  unfold mX4_signalsOf
  obtain ⟨b, hb, -⟩ := bq_inv (fun n a k => mX4_signalsOf_L4 s i v n a (nI k)) S (fun _ _ => True) (fun _ => True) (by
    intro n k a hk _
    by_cases h : k = S
    · subst h
      exact Or.inl ⟨a, by simp only [mX4_signalsOf_L4, h14]; rw [if_pos (Int32.le_refl _)], trivial⟩
    · have hlt : k < S := by omega
      by_cases z : s (i + 6) k = v
      · exact Or.inr ⟨hlt, _, trivial, by simp only [mX4_signalsOf_L4, h14]; rw [if_neg (nI_ge hlt (by omega)), bq_at (by omega) (by decide), Option.bind_some, if_pos z, Option.bind_some, nI_1]⟩
      · exact Or.inr ⟨hlt, _, trivial, by simp only [mX4_signalsOf_L4, h14]; rw [if_neg (nI_ge hlt (by omega)), bq_at (by omega) (by decide), Option.bind_some, if_neg z, Option.bind_some, nI_1]⟩) bo_fuel 0 0 (Nat.zero_le _) (bq_fuel (by omega)) trivial
  exact ⟨b, by rw [show mX4_signalsOf_L4 s i v bo_fuel 0 0 = some b from hb, Option.bind_some]⟩
noncomputable def kSw (i : Nat) (v : Int32) (s : bo_M) : Option bo_M := (mX4_signalsOf s i v).bind fun v4 => if v4 = 0 then some s else (mX7_wrong s 4 (s 1 2)).bind fun σ6 => some σ6
noncomputable def kSe (i : Nat) (v : Int32) (s : bo_M) : Option bo_M := (mX8_put s 5 (i + 6) (s i 14) v).bind fun σ8 => some (bo_up σ8 i 14 (σ8 i 14 + 1))
noncomputable def kSg (i : Nat) : bo_M → Option bo_M := kW (fun _ v s => kSw i v s) 1 16 fun v => kE (kSe i v)
theorem kSg_is (σ : bo_M) (i : Nat) : mX7_readSignal σ i = ((if σ i 14 < 5 then some (0 : Int32) else some 1).bind fun a1 => (mX7_startClause σ a1).bind (kSg i)) := by
  unfold mX7_readSignal kSg kSw kSe kW kE
  simp only [Option.bind_some, Option.bind_assoc]
theorem kSw_O (hS : S ≤ 5) (v : Int32) : kO i S (kSw i v) := by
  intro s hf h14
  obtain ⟨r, hr⟩ := sig_any h14 hS v
  unfold kSw
  rw [hr, Option.bind_some, cl_wrong, wr_no hf, Option.bind_some, ite_self]
  exact ⟨s, rfl, fun _ _ _ => rfl, h14⟩
theorem kSe_end (v : Int32) : ∀ s : bo_M, ¬ s 1 3 = 0 → s i 14 = nI S → ∃ s', kSe i v s = some s' ∧ frI i s s' := by
  intro s _ _
  obtain ⟨s', h1, h2⟩ := put_any 5 (i + 6) (s i 14) v s (by decide)
  unfold kSe
  rw [h1, Option.bind_some]
  exact ⟨_, rfl, fun x b z => by rw [bq_up_o (by omega), h2 x (by omega)]⟩
theorem kSg_F (hi : i = 34 ∨ i = 42) (hS : S ≤ 5) : Fa i S T m (kSg i) := Fa.num hi (fun _ v => kSw_O hS v) (fun v => Fa.end_ hi (kSe_end v))
theorem cl_signal (hi : i = 34 ∨ i = 42) {y : PS} (hc : cr σ i T m y) (hE : ps_env y) : cl_res i T m σ y.1 (mX7_readSignal σ i) (ps_signal T m y) := by
  rw [kSg_is]
  obtain ⟨a, N, D, G, S, X⟩ := y
  unfold ps_signal
  have hc' := hc
  obtain ⟨h1, h2, h3, h4, h5, h6, h8⟩ := hc
  dsimp only at h1 h2 h3 h4 h5 h6 h8 ⊢
  have hE' : sp_env N D G S X := hE
  have hS5 := hE'.nS.2
  have hm := h1.1
  rw [h6.nS]
  by_cases c : S < 5
  · rw [if_pos c, if_pos (show nI S < 5 from nI_lt (b := 5) c (by decide)), Option.bind_some, cl_start0 hi hc', Option.bind_some]
    obtain ⟨s0, e0, f0, t0, g1, g2, g3, g5, o0⟩ := cr_start hc' hi
    rw [e0]
    dsimp only at g1 g2
    refine cl_num_step (l := 1) (u := 16) (S := S) rfl rfl (by omega) (by omega) hi (fun _ v => kSw_O hS5 v) (fun v => Fa.end_ hi (kSe_end v)) f0.H t0 g1 (by omega) g3 (by rw [o0]; exact h6.nS) (fun v1 a1 t1 x2 x3 x4 x5 x6 x7 x8 x9 x10 => ?_)
    have f1 : frH i σ t1 := f0.H.tr x2.H
    have hI1 : sp_inn t1 i N D G S X := h6.to (fun x z1 z2 => funext fun b => by rw [x2 x b (by omega), f0 x b (by omega)])
    have o1 : ∀ b, t1 i b = σ i b := fun b => by rw [x2 i b (by omega), o0]
    unfold kSw
    rw [cl_signalsOf hI1 hE', Option.bind_some, cl_wrong, Option.bind_some]
    have hlt2 : sp_set (fun k => decide (N 143 k = nI v1)) S < 2 ^ 31 := Nat.lt_trans (sp_set_127 (by omega)) (by decide)
    cases ha : sp_any (fun k => decide (N 143 k = nI v1)) S with
    | true =>
      rw [if_neg (fun z => by have := sp_set_zero.mp ((bq_eq0 hlt2).mp z); rw [ha] at this; cases this), Option.bind_some, if_pos rfl]
      have fw : fr1 t1 (wr t1 4 (t1 1 2)) := wr_fr
      exact ((Fa.end_ hi (kSe_end (i := i) (S := S) (nI v1))).bad (σ := wr t1 4 (t1 1 2)) (a := a1) (c := 4) (p := ps_sk T m (a + 1)) (h1.frH (f1.tr fw.H) hi) (by rw [wr_12 (by omega)]; exact x5) (by omega) (by omega) (by rw [wr_3 x9]; rfl) (by rw [wr_5 x9]; exact x8) (by rw [fw i 14 (by omega), o1]; exact h6.nS)).fr (f1.tr fw.H)
    | false =>
      rw [if_pos ((bq_eq0 hlt2).mpr (sp_set_zero.mpr ha)), Option.bind_some, if_neg (by decide)]
      refine cl_end_step (S := S) hi (kSe_end (nI v1)) f1 (h1.frH f1 hi) x5 (by omega) x9 (by rw [o1]; exact h6.nS) (fun a3 t3 w2 w3 w4 w5 w6 w7 => ?_)
      have o3 : ∀ b, t3 i b = σ i b := fun b => by rw [w2 i b (by omega), o1]
      have rr : ∀ x b, i < x → x ≤ i + 7 → t3 x b = σ x b := fun x b q1 q2 => by rw [w2 x b (by omega), x2 x b (by omega), f0 x b (by omega)]
      unfold kSe
      rw [o3 14, h6.nS, bq_put c (by decide), Option.bind_some]
      have ff : frH i σ (bo_up (bo_up t3 (i + 6) S (nI v1)) i 14 (bo_up t3 (i + 6) S (nI v1) i 14 + 1)) := f1.tr (w2.H.tr (fun x b _ q => by rw [bq_up_o (by omega), bq_up_o (by omega)]))
      refine ⟨_, rfl, ff, ⟨h1.frH ff hi, by rw [bq_up_o (by omega), bq_up_o (by omega)]; exact w3, w4, by rw [bq_up_o (by omega), bq_up_o (by omega)]; exact w6, ?_, ?_, ?_⟩, ?_, show a < a3 by omega⟩
      · rw [bq_up_o (by omega), bq_up_o (by omega), w7, x10, g5]
      · refine ⟨?_, ?_, ?_, ?_, ?_, ?_, ?_, fun d hd => ?_, fun d hd => ?_, fun d hd => ?_, fun q hq => ?_⟩
        · rw [bq_up, if_neg (by omega), bq_up_o (by omega), o3]; exact h6.open_
        · rw [bq_up, if_neg (by omega), bq_up_o (by omega), o3]; exact h6.echo
        · rw [bq_up, if_neg (by omega), bq_up_o (by omega), o3]; exact h6.takes
        · rw [bq_up, if_neg (by omega), bq_up_o (by omega), o3]; exact h6.wet
        · rw [bq_up, if_neg (by omega), bq_up_o (by omega), o3]; exact h6.nD
        · rw [bq_up, if_neg (by omega), bq_up_o (by omega), o3]; exact h6.nG
        · rw [bq_up_s, bq_up_o (by omega), o3, h6.nS, nI_1]
        · rw [bq_up_o (by omega), bq_up_o (by omega), bq_up_o (by omega), bq_up_o (by omega), bq_up_o (by omega), bq_up_o (by omega), rr _ _ (by omega) (by omega), rr _ _ (by omega) (by omega), rr _ _ (by omega) (by omega)]
          have h' := h6.dr d hd
          simp [bq_up, h']
        · rw [bq_up_o (by omega), bq_up_o (by omega), bq_up_o (by omega), bq_up_o (by omega), rr _ _ (by omega) (by omega), rr _ _ (by omega) (by omega)]
          have h' := h6.go d hd
          simp [bq_up, h']
        · rw [bq_up_o (by omega), bq_up, rr _ _ (by omega) (by omega)]
          by_cases k : d = S
          · subst k
            simp [bq_up]
          · have h' := h6.si d (show d < S by dsimp only at hd; omega)
            simp [bq_up, k, h']
        · rw [bq_up_o (by omega), bq_up_o (by omega), rr _ _ (by omega) (by omega)]
          rw [sp_bl_cong (N := N) (M := bo_up (bo_up N 143 S (nI v1)) 135 14 (nI (S + 1))) (funext fun b => by simp [bq_up]) (funext fun b => by simp [bq_up])]
          exact h6.bl q hq
      · rw [bq_up, if_neg (by omega), bq_up_o (by omega), o3]; exact h8
      · show sp_env (bo_up (bo_up N 143 S (nI v1)) 135 14 (nI (S + 1))) D G (S + 1) X
        refine ⟨⟨?_, hE'.nD.2⟩, ⟨?_, hE'.nG.2⟩, ⟨bq_up_s, c⟩, ⟨?_, hE'.nX.2⟩, ?_, ?_, ?_, fun d hd => ?_, fun d hd => ?_, fun d hd => ?_, fun d hd => ?_⟩
        · simp only [bq_up]; simpa using hE'.nD.1
        · simp only [bq_up]; simpa using hE'.nG.1
        · simp only [bq_up]; simpa using hE'.nX.1
        · simp only [bq_up]; simpa using hE'.echo
        · simp only [bq_up]; simpa using hE'.takes
        · simp only [bq_up]; simpa using hE'.wet
        · simp only [bq_up]; simpa using hE'.dr d hd
        · simp only [bq_up]; simpa using hE'.ti d hd
        · simp only [bq_up]; simpa using hE'.go d hd
        · simp only [bq_up]
          by_cases k : d = S
          · subst k
            simp
            exact ⟨v1, rfl, x3, x4⟩
          · have h' := hE'.si d (show d < S by omega)
            simpa [k] using h'
  · rw [if_neg c, if_neg (show ¬ nI S < 5 from nI_nlt (b := 5) (by omega) (by omega)), Option.bind_some]
    exact cl_full3 hi hc' (kSg_F hi hS5) bq_10
/-! sextons -/
theorem sex_any (i : Nat) (f2 f3 : Int32) (s : bo_M) : ∃ s', mX7_readSexton_L57 i f2 f3 bo_fuel 0 s = some s' ∧ ∀ x, x ≠ i + 7 → s' x = s x := by
  obtain ⟨b, hb, hq⟩ := bq_inv (fun n t k => mX7_readSexton_L57 i f2 f3 n (nI k) t) 96 (fun _ t => ∀ x, x ≠ i + 7 → t x = s x) (fun t => ∀ x, x ≠ i + 7 → t x = s x) (by
    intro n k t hk ht
    by_cases c : f3 ≤ nI k
    · exact Or.inl ⟨t, by simp only [mX7_readSexton_L57]; rw [if_pos c], ht⟩
    · by_cases z : k = 96
      · subst z
        exact Or.inl ⟨t, by simp only [mX7_readSexton_L57]; rw [if_neg c, if_pos (show (96 : Int32) ≤ nI 96 from Int32.le_refl _)], ht⟩
      · obtain ⟨t', h1, h2⟩ := put_any 96 (i + 7) (f2 + nI k) 1 t (by decide)
        exact Or.inr ⟨by omega, t', fun x hx => by rw [h2 x hx, ht x hx], by simp only [mX7_readSexton_L57]; rw [if_neg c, if_neg (show ¬ (96 : Int32) ≤ nI k from nI_ge (b := 96) (by omega) (by decide)), h1, Option.bind_some, nI_1]⟩) bo_fuel 0 s (Nat.zero_le _) (bq_fuel (by omega)) (fun _ _ => rfl)
  exact ⟨b, hb, hq⟩
theorem sex_ok {x l : Nat} (hx : x + l ≤ 96) (s : bo_M) : mX7_readSexton_L57 i (nI x) (nI l) bo_fuel 0 s = some (fun o b => if o = i + 7 ∧ x ≤ b ∧ b < x + l then 1 else s o b) := by
  obtain ⟨b, hb, hq⟩ := bq_inv (fun n t k => mX7_readSexton_L57 i (nI x) (nI l) n (nI k) t) l (fun k t => t = fun o b => if o = i + 7 ∧ x ≤ b ∧ b < x + k then 1 else s o b) (fun t => t = fun o b => if o = i + 7 ∧ x ≤ b ∧ b < x + l then 1 else s o b) (by
    intro n k t hk ht
    by_cases z : k = l
    · subst z
      exact Or.inl ⟨t, by simp only [mX7_readSexton_L57]; rw [if_pos (Int32.le_refl _)], ht⟩
    · refine Or.inr ⟨by omega, bo_up t (i + 7) (x + k) 1, ?_, ?_⟩
      · subst ht
        funext o b
        rw [bq_up]
        by_cases c : o = i + 7 ∧ b = x + k
        · rw [if_pos c, if_pos (by omega)]
        · rw [if_neg c]
          by_cases c2 : o = i + 7 ∧ x ≤ b ∧ b < x + k
          · rw [if_pos c2, if_pos (by omega)]
          · rw [if_neg c2, if_neg (by omega)]
      · simp only [mX7_readSexton_L57]
        rw [if_neg (nI_ge (by omega) (by omega)), if_neg (show ¬ (96 : Int32) ≤ nI k from nI_ge (b := 96) (by omega) (by decide)), nI_add, bq_put (by omega) (by decide), Option.bind_some, nI_1]) bo_fuel 0 s (Nat.zero_le _) (bq_fuel (by omega)) (by
    funext o b
    rw [if_neg (by omega)])
  rw [show mX7_readSexton_L57 i (nI x) (nI l) bo_fuel 0 s = some b from hb, hq]
noncomputable def kXe (i : Nat) (v1 v2 : Int32) (s : bo_M) : Option bo_M := (some (bo_up s i 12 (s i 12 + 1))).bind fun σ6 => (mX7_readSexton_L57 i v1 v2 bo_fuel 0 σ6).bind fun a8 => some a8
noncomputable def kX2 (i : Nat) (v1 : Int32) : bo_M → Option bo_M := kW (fun _ _ s => some s) 1 (if (96 - v1) < 24 then (96 - v1) else 24) fun v2 => kE (kXe i v1 v2)
noncomputable def kX1 (i : Nat) : bo_M → Option bo_M := kW (fun _ _ s => some s) 0 95 fun v1 => kX2 i v1
theorem kX_is (σ : bo_M) (i : Nat) : mX7_readSexton σ i = ((if σ i 12 < 4 then some (0 : Int32) else some 1).bind fun a1 => (mX7_startClause σ a1).bind (kX1 i)) := rfl
theorem kO_id : kO i S (fun s => some s) := fun s _ h => ⟨s, rfl, fun _ _ _ => rfl, h⟩
theorem kXe_end (v1 v2 : Int32) : ∀ s : bo_M, ¬ s 1 3 = 0 → s i 14 = nI S → ∃ s', kXe i v1 v2 s = some s' ∧ frI i s s' := by
  intro s _ _
  obtain ⟨s', h1, h2⟩ := sex_any i v1 v2 (bo_up s i 12 (s i 12 + 1))
  unfold kXe
  rw [Option.bind_some, h1, Option.bind_some]
  exact ⟨_, rfl, fun x b z => by rw [h2 x (by omega), bq_up_o (by omega)]⟩
theorem kX2_F (hi : i = 34 ∨ i = 42) (v1 : Int32) : Fa i S T m (kX2 i v1) := Fa.num hi (fun _ _ => kO_id) (fun v2 => Fa.end_ hi (kXe_end v1 v2))
theorem kX1_F (hi : i = 34 ∨ i = 42) : Fa i S T m (kX1 i) := Fa.num hi (fun _ _ => kO_id) (fun v1 => kX2_F hi v1)
theorem sex_hi {v1 : Nat} (x4 : v1 ≤ 95) : (if (96 : Int32) - nI v1 < 24 then (96 : Int32) - nI v1 else 24) = nI (min 24 (96 - v1)) := by
  rw [show (96 : Int32) - nI v1 = nI (96 - v1) from pk_sub (a := 96) (by omega)]
  by_cases z : 96 - v1 < 24
  · rw [if_pos (show nI (96 - v1) < 24 from nI_lt (b := 24) z (by decide)), Nat.min_eq_right (by omega)]
  · rw [if_neg (show ¬ nI (96 - v1) < 24 from nI_nlt (b := 24) (by omega) (by omega)), Nat.min_eq_left (by omega)]
    rfl
theorem sp_any_succ (b : Nat → Bool) (n : Nat) : sp_any b (n + 1) = (sp_any b n || b n) := rfl
theorem sp_any_cong {b c : Nat → Bool} : ∀ {n : Nat}, (∀ k, k < n → b k = c k) → sp_any b n = sp_any c n
  | 0, _ => rfl
  | n + 1, h => by rw [sp_any_succ, sp_any_succ, sp_any_cong (n := n) (fun k hk => h k (by omega)), h n (by omega)]
theorem sex_bl {M : bo_M} {v1 v2 q : Nat} (hv1 : v1 < 2 ^ 31) (hv2 : v2 < 2 ^ 31) (h1 : ∀ t, M 139 t = if t = X then nI v1 else N 139 t) (h2 : ∀ t, M 140 t = if t = X then nI v2 else N 140 t) : sp_bl M (X + 1) q = (sp_bl N X q || decide (v1 ≤ q ∧ q < v1 + v2)) := by
  unfold sp_bl
  rw [sp_any_succ, h1 X, h2 X, if_pos rfl, if_pos rfl, nI_clamp hv1, nI_clamp hv2, sp_any_cong (c := fun t => decide ((N 139 t).toNatClampNeg ≤ q ∧ q < (N 139 t).toNatClampNeg + (N 140 t).toNatClampNeg)) (fun k hk => by rw [h1 k, h2 k, if_neg (by omega), if_neg (by omega)])]
theorem cl_sextons (hi : i = 34 ∨ i = 42) {y : PS} (hc : cr σ i T m y) (hE : ps_env y) : cl_res i T m σ y.1 (mX7_readSexton σ i) (ps_sexton T m y) := by
  rw [kX_is]
  obtain ⟨a, N, D, G, S, X⟩ := y
  unfold ps_sexton
  have hc' := hc
  obtain ⟨h1, h2, h3, h4, h5, h6, h8⟩ := hc
  dsimp only at h1 h2 h3 h4 h5 h6 h8 ⊢
  have hE' : sp_env N D G S X := hE
  have hm := h1.1
  rw [h8]
  by_cases c : X < 4
  · rw [if_pos c, if_pos (show nI X < 4 from nI_lt (b := 4) c (by decide)), Option.bind_some, cl_start0 hi hc', Option.bind_some]
    obtain ⟨s0, e0, f0, t0, g1, g2, g3, g5, o0⟩ := cr_start hc' hi
    rw [e0]
    dsimp only at g1 g2
    refine cl_num_step (l := 0) (u := 95) (S := S) rfl rfl (by omega) (by omega) hi (fun _ _ => kO_id) (fun v1 => kX2_F hi v1) f0.H t0 g1 (by omega) g3 (by rw [o0]; exact h6.nS) (fun v1 a1 t1 x2 x3 x4 x5 x6 x7 _ x9 x10 => ?_)
    rw [Option.bind_some]
    have f1 : frH i σ t1 := f0.H.tr x2.H
    have o1 : ∀ b, t1 i b = σ i b := fun b => by rw [x2 i b (by omega), o0]
    have eh := sex_hi x4
    refine cl_num_step (l := 1) (u := min 24 (96 - v1)) (S := S) rfl eh (by omega) (by omega) hi (fun _ _ => kO_id) (fun v2 => Fa.end_ hi (kXe_end (nI v1) v2)) f1 (h1.frH f1 hi) x5 (by omega) x9 (by rw [o1]; exact h6.nS) (fun v2 a2 t2 y2 y3 y4 y5 y6 y7 _ y9 y10 => ?_)
    rw [Option.bind_some]
    have f2 : frH i σ t2 := f1.tr y2.H
    have o2 : ∀ b, t2 i b = σ i b := fun b => by rw [y2 i b (by omega), o1]
    refine cl_end_step (S := S) hi (kXe_end (nI v1) (nI v2)) f2 (h1.frH f2 hi) y5 (by omega) y9 (by rw [o2]; exact h6.nS) (fun a3 t3 w2 w3 w4 w5 w6 w7 => ?_)
    have o3 : ∀ b, t3 i b = σ i b := fun b => by rw [w2 i b (by omega), o2]
    have rr : ∀ x b, i < x → x ≤ i + 7 → t3 x b = σ x b := fun x b q1 q2 => by rw [w2 x b (by omega), y2 x b (by omega), x2 x b (by omega), f0 x b (by omega)]
    unfold kXe
    rw [Option.bind_some, sex_ok (by omega), Option.bind_some]
    obtain ⟨s4, hs4⟩ : ∃ s4 : bo_M, s4 = fun o b => if o = i + 7 ∧ v1 ≤ b ∧ b < v1 + v2 then 1 else bo_up t3 i 12 (t3 i 12 + 1) o b := ⟨_, rfl⟩
    rw [← hs4]
    have s4o : ∀ x b, x ≠ i + 7 → s4 x b = bo_up t3 i 12 (t3 i 12 + 1) x b := fun x b z => by rw [hs4]; exact if_neg (fun y => z y.1)
    have ff : frH i σ s4 := f2.tr (w2.H.tr (fun x b _ q => by rw [s4o x b (by omega), bq_up_o (by omega)]))
    have rs : ∀ b, s4 1 b = t3 1 b := fun b => by rw [s4o 1 b (by omega), bq_up_o (by omega)]
    have rx : ∀ x b, i < x → x < i + 7 → s4 x b = σ x b := fun x b q1 q2 => by rw [s4o x b (by omega), bq_up_o (by omega), rr x b (by omega) (by omega)]
    have ri : ∀ b, b ≠ 12 → s4 i b = σ i b := fun b hb => by rw [s4o i b (by omega), bq_up, if_neg (by omega), o3]
    refine ⟨_, rfl, ff, ⟨h1.frH ff hi, by rw [rs]; exact w3, w4, by rw [rs]; exact w6, ?_, ?_, ?_⟩, ?_, show a < a3 by omega⟩
    · rw [rs, w7, y10, x10, g5]
    · refine ⟨?_, ?_, ?_, ?_, ?_, ?_, ?_, fun d hd => ?_, fun d hd => ?_, fun d hd => ?_, fun q hq => ?_⟩
      · rw [ri 7 (by decide)]; exact h6.open_
      · rw [ri 8 (by decide)]; exact h6.echo
      · rw [ri 9 (by decide)]; exact h6.takes
      · rw [ri 10 (by decide)]; exact h6.wet
      · rw [ri 11 (by decide)]; exact h6.nD
      · rw [ri 13 (by decide)]; exact h6.nG
      · rw [ri 14 (by decide)]; exact h6.nS
      · rw [rx _ _ (by omega) (by omega), rx _ _ (by omega) (by omega), rx _ _ (by omega) (by omega)]
        have h' := h6.dr d hd
        simp [bq_up, h']
      · rw [rx _ _ (by omega) (by omega), rx _ _ (by omega) (by omega)]
        have h' := h6.go d hd
        simp [bq_up, h']
      · rw [rx _ _ (by omega) (by omega)]
        have h' := h6.si d hd
        simp [bq_up, h']
      · have e7 : s4 (i + 7) q = if v1 ≤ q ∧ q < v1 + v2 then 1 else σ (i + 7) q := by
          rw [hs4]
          dsimp only
          rw [bq_up_o (by omega), rr _ _ (by omega) (by omega)]
          by_cases z : v1 ≤ q ∧ q < v1 + v2
          · rw [if_pos ⟨rfl, z⟩, if_pos z]
          · rw [if_neg (fun y => z y.2), if_neg z]
        have eb := sex_bl (N := N) (X := X) (q := q) (M := bo_up (bo_up (bo_up N 139 X (nI v1)) 140 X (nI v2)) 135 8 (nI (X + 1))) (show v1 < 2 ^ 31 by omega) (show v2 < 2 ^ 31 by omega) (fun t => by simp [bq_up]) (fun t => by simp [bq_up])
        dsimp only
        rw [e7, eb, h6.bl q hq]
        by_cases z : v1 ≤ q ∧ q < v1 + v2
        · rw [if_pos z]; simp [z]
        · rw [if_neg z]; simp [z]
    · rw [s4o i 12 (by omega), bq_up_s, o3, h8, nI_1]
    · show sp_env (bo_up (bo_up (bo_up N 139 X (nI v1)) 140 X (nI v2)) 135 8 (nI (X + 1))) D G S (X + 1)
      refine ⟨⟨?_, hE'.nD.2⟩, ⟨?_, hE'.nG.2⟩, ⟨?_, hE'.nS.2⟩, ⟨bq_up_s, c⟩, ?_, ?_, ?_, fun d hd => ?_, fun d hd => ?_, fun d hd => ?_, fun d hd => ?_⟩
      · simp only [bq_up]; simpa using hE'.nD.1
      · simp only [bq_up]; simpa using hE'.nG.1
      · simp only [bq_up]; simpa using hE'.nS.1
      · simp only [bq_up]; simpa using hE'.echo
      · simp only [bq_up]; simpa using hE'.takes
      · simp only [bq_up]; simpa using hE'.wet
      · simp only [bq_up]; simpa using hE'.dr d hd
      · simp only [bq_up]
        by_cases k : d = X
        · subst k
          simp
          exact ⟨v1, rfl, v2, rfl, y3, by omega, by omega⟩
        · have h' := hE'.ti d (show d < X by omega)
          simpa [k] using h'
      · simp only [bq_up]; simpa using hE'.go d hd
      · simp only [bq_up]; simpa using hE'.si d hd
  · rw [if_neg c, if_neg (show ¬ nI X < 4 from nI_nlt (b := 4) (by omega) (by have := hE'.nX.2; omega)), Option.bind_some]
    exact cl_full3 hi hc' (kX1_F hi) bq_10
end CLAUSES3
