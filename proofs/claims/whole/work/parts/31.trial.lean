/-! TRIED: the class runs an evening of its own, the reference its own row and puts it back -/
section TRI
variable {σ N : bo_M} {e r i D G S X g B : Nat} {V : Nat → Int32}
theorem cl_become (hR : sp_rep σ r D V g) (her : e + 4 < r ∨ r + 4 < e) : ∃ σ', mX2_become σ e r = some σ' ∧ (∀ a, (a < e ∨ e + 4 < a) → σ' a = σ a) ∧ sp_rep σ' e D V g := by
  have hre : r ≠ e := by omega
  unfold mX2_become
  rw [Option.bind_some, Option.bind_some, Option.bind_some, Option.bind_some, Option.bind_some, Option.bind_some]
  generalize ht : bo_up (bo_up (bo_up (bo_up (bo_up (bo_up σ e 4 (σ r 4)) e 5 (bo_up σ e 4 (σ r 4) r 5)) e 6 (bo_up (bo_up σ e 4 (σ r 4)) e 5 (bo_up σ e 4 (σ r 4) r 5) r 6)) e 7 (bo_up (bo_up (bo_up σ e 4 (σ r 4)) e 5 (bo_up σ e 4 (σ r 4) r 5)) e 6 (bo_up (bo_up σ e 4 (σ r 4)) e 5 (bo_up σ e 4 (σ r 4) r 5) r 6) r 7)) e 8 (bo_up (bo_up (bo_up (bo_up σ e 4 (σ r 4)) e 5 (bo_up σ e 4 (σ r 4) r 5)) e 6 (bo_up (bo_up σ e 4 (σ r 4)) e 5 (bo_up σ e 4 (σ r 4) r 5) r 6)) e 7 (bo_up (bo_up (bo_up σ e 4 (σ r 4)) e 5 (bo_up σ e 4 (σ r 4) r 5)) e 6 (bo_up (bo_up σ e 4 (σ r 4)) e 5 (bo_up σ e 4 (σ r 4) r 5) r 6) r 7) r 8)) e 9 _ = t
  have hto : ∀ a, a ≠ e → t a = σ a := by
    intro a ha
    rw [← ht, bq_up_o ha, bq_up_o ha, bq_up_o ha, bq_up_o ha, bq_up_o ha, bq_up_o ha]
  have hte : t e 4 = σ r 4 ∧ t e 5 = σ r 5 ∧ t e 6 = σ r 6 ∧ t e 7 = σ r 7 ∧ t e 8 = σ r 8 ∧ t e 9 = σ r 9 := by
    rw [← ht]
    simp [bq_up, hre]
  rw [bq_copy (by omega) (by decide), Option.bind_some, bq_copy (by omega) (by decide), Option.bind_some, bq_copy (by omega) (by decide), Option.bind_some, bq_copy (by omega) (by decide), Option.bind_some]
  refine ⟨_, rfl, fun a ha => ?_, ?_⟩
  · funext b
    have h1 : a ≠ e + 1 := by omega
    have h2 : a ≠ e + 2 := by omega
    have h3 : a ≠ e + 3 := by omega
    have h4 : a ≠ e + 4 := by omega
    simp only [h1, h2, h3, h4, false_and, if_false]
    rw [hto a (by omega)]
  · obtain ⟨t4, t5, t6, t7, t8, t9⟩ := hte
    have n1 : e ≠ e + 1 := by omega
    have n2 : e ≠ e + 2 := by omega
    have n3 : e ≠ e + 3 := by omega
    have n4 : e ≠ e + 4 := by omega
    have m12 : e + 1 ≠ e + 2 := by omega
    have m13 : e + 1 ≠ e + 3 := by omega
    have m14 : e + 1 ≠ e + 4 := by omega
    have m23 : e + 2 ≠ e + 3 := by omega
    have m24 : e + 2 ≠ e + 4 := by omega
    have m34 : e + 3 ≠ e + 4 := by omega
    have m21 : e + 2 ≠ e + 1 := by omega
    have r21 : r + 2 ≠ e + 1 := by omega
    have r31 : r + 3 ≠ e + 1 := by omega
    have r32 : r + 3 ≠ e + 2 := by omega
    have r41 : r + 4 ≠ e + 1 := by omega
    have r42 : r + 4 ≠ e + 2 := by omega
    have r43 : r + 4 ≠ e + 3 := by omega
    refine ⟨?_, ?_, ?_, ?_, ?_, ?_, fun d hd => ⟨?_, ?_⟩, fun k hk => ?_⟩
    · simp only [n1, n2, n3, n4, false_and, if_false]; rw [t4, hR.gone]
    · simp only [n1, n2, n3, n4, false_and, if_false]; rw [t5, hR.ins]
    · simp only [n1, n2, n3, n4, false_and, if_false]; rw [t6, hR.bell]
    · simp only [n1, n2, n3, n4, false_and, if_false]; rw [t7, hR.hung]
    · simp only [n1, n2, n3, n4, false_and, if_false]; rw [t8, hR.paid]
    · simp only [n1, n2, n3, n4, false_and, if_false]; rw [t9, hR.rain]
    · simp only [m12, m13, m14, hd, true_and, false_and, if_false, if_true]; rw [hto _ (by omega), (hR.dr d hd).1]
    · simp only [m23, m24, r21, hd, true_and, false_and, if_false, if_true]; rw [hto _ (by omega), (hR.dr d hd).2]
    · have hm : (g - min g 40 + k) % 40 < 40 := Nat.mod_lt _ (by decide)
      simp only [m34, r31, r32, r41, r42, r43, hm, true_and, false_and, if_false, if_true]
      rw [hto _ (by omega), hto _ (by omega)]
      exact hR.lg k hk
def sp_seq (N : bo_M) (D X g : Nat) (V : Nat → Int32) : Nat → Nat → Int32
  | 0 => V
  | n + 1 => sp_pass N D X (g + n) (sp_seq N D X g V n)
def sp_hd (N : bo_M) (D X g : Nat) (V : Nat → Int32) (n : Nat) : Nat := sp_heard N X (sp_seq N D X g V n) (g + n) (sp_cnt (sp_ring N (sp_seq N D X g V n)) D)
theorem sp_seq_wf (hE : sp_env N D G S X) (hW : sp_wf D B V g) : ∀ n, B + n ≤ 1000000 → sp_wf D (B + n) (sp_seq N D X g V n) (g + n)
  | 0, _ => hW
  | n + 1, h => sp_pass_wf hE (sp_seq_wf hE hW n (by omega)) (show B + n ≤ 1000000 by omega)
theorem sp_hd_le (hE : sp_env N D G S X) (n : Nat) : sp_hd N D X g V n ≤ 8 := by
  unfold sp_hd
  refine Nat.le_trans (sp_heard_le (G := G) (S := S) hE) ?_
  have := sp_cnt_le (sp_ring N (sp_seq N D X g V n)) D
  have := hE.nD.2
  omega
theorem cl_run (hi : bo_isInn i) (hI : sp_inn σ i N D G S X) (hE : sp_env N D G S X) (hR : sp_rep σ 50 D V g) (hW : sp_wf D B V g) (hB : B ≤ 900000) {n : Nat} (hn : n ≤ 192) :
    ∃ σ', mX9_run σ i 50 (nI n) = some σ' ∧ (∀ a, (a < 18 ∨ 23 < a) → σ' a = σ a) ∧ sp_rep σ' 18 D (sp_seq N D X g V n) (g + n) ∧ ∀ k, k < n → σ' 23 k = nI (sp_hd N D X g V k) := by
  have hi2 : i = 34 ∨ i = 42 := hi
  obtain ⟨t, ht, hto, htR⟩ := cl_become (e := 18) hR (by omega)
  unfold mX9_run
  rw [ht, Option.bind_some]
  obtain ⟨s, hs, h1, h2, h3⟩ := bq_inv (fun m s k => mX9_run_L11 i (nI n) m (nI k) s) n
    (fun k s => (∀ a, (a < 18 ∨ 23 < a) → s a = σ a) ∧ sp_rep s 18 D (sp_seq N D X g V k) (g + k) ∧ ∀ j, j < k → s 23 j = nI (sp_hd N D X g V j))
    (fun s => (∀ a, (a < 18 ∨ 23 < a) → s a = σ a) ∧ sp_rep s 18 D (sp_seq N D X g V n) (g + n) ∧ ∀ j, j < n → s 23 j = nI (sp_hd N D X g V j)) (by
    intro m k s hk ⟨p1, p2, p3⟩
    by_cases h : k = n
    · subst h
      exact Or.inl ⟨_, by simp only [mX9_run_L11]; rw [if_pos (Int32.le_refl _)], p1, p2, p3⟩
    · have hlt : k < n := by omega
      have hIs : sp_inn s i N D G S X := hI.to (fun a z1 z2 => p1 a (by omega))
      obtain ⟨w, hw, hwo, hwR⟩ := cl_pass hIs hE p2 (sp_seq_wf hE hW k (by omega)) (by omega) (by omega)
      refine Or.inr ⟨hlt, bo_up w 23 k (nI (sp_hd N D X g V k)), ⟨fun a ha => ?_, ?_, fun j hj => ?_⟩, ?_⟩
      · rw [bq_up_o (by omega), hwo a (by omega), p1 a ha]
      · exact hwR.to (fun a z1 z2 => bq_up_o (by omega))
      · rw [bq_up]
        by_cases hjk : j = k
        · rw [if_pos ⟨rfl, hjk⟩, hjk]
        · rw [if_neg (fun z => hjk z.2), hwo 23 (by omega)]
          exact p3 j (by omega)
      · simp only [mX9_run_L11]
        rw [if_neg (nI_ge hlt (by omega)), if_neg (show ¬ (192 : Int32) ≤ nI k from nI_ge (a := k) (b := 192) (by omega) (by decide)), hw, Option.bind_some]
        dsimp only
        rw [bq_put (by omega) (by decide), Option.bind_some, nI_1]
        rfl) bo_fuel 0 t (Nat.zero_le _) (bq_fuel (by omega)) ⟨fun a ha => hto a (by omega), htR, fun j hj => absurd hj (Nat.not_lt_zero _)⟩
  rw [show mX9_run_L11 i (nI n) bo_fuel 0 t = some s from by rw [← nI_0]; exact hs, Option.bind_some]
  exact ⟨s, rfl, h1, h2, h3⟩
theorem sp_pass_far {j : Nat} (h : 107 ≤ j) : sp_pass N D X g V j = V j := by
  unfold sp_pass
  rw [if_neg (by omega), if_neg (by omega), if_neg (by omega), if_neg (by omega), if_neg (by omega), if_neg (by omega), if_neg (by omega), if_neg (by omega), if_neg (by omega), if_neg (by omega), if_neg (by omega)]
theorem sp_seq_far {j : Nat} (h : 107 ≤ j) : ∀ n, sp_seq N D X g V n j = V j
  | 0 => rfl
  | n + 1 => (sp_pass_far h).trans (sp_seq_far h n)
theorem rf_look (hA : sp_ag σ N) (hE : sp_env N D G S X) (hW : sp_wf D B (σ 144) g) (hB : B ≤ 900000) :
    ∃ σ', mX11_lookAhead σ = some σ' ∧ (∀ a, (a < 156 ∨ 158 < a) → σ' a = σ a) ∧ ∀ k, k < 192 → σ' 157 k = nI (sp_hd N D X g (σ 144) k) ∧ σ' 158 k = sp_seq N D X g (σ 144) (k + 1) 22 := by
  obtain ⟨V, hV⟩ : ∃ V : Nat → Int32, V = σ 144 := ⟨_, rfl⟩
  rw [← hV] at hW ⊢
  unfold mX11_lookAhead
  rw [show mX11_copyRow σ 107 144 107 156 107 = some _ from rf_copy (m := 107) (by decide) (by decide) (by decide) (by decide) (by decide) (by decide), Option.bind_some]
  generalize ht : (fun a b => if a = 156 ∧ b < 107 then σ 144 b else σ a b : bo_M) = t
  have hto : ∀ a, a ≠ 156 → t a = σ a := by
    intro a ha
    rw [← ht]
    funext b
    exact if_neg (fun z => ha z.1)
  have ht6 : ∀ b, b < 107 → t 156 b = V b := by
    intro b hb
    rw [← ht, hV]
    exact if_pos ⟨rfl, hb⟩
  obtain ⟨s, hs, h1, h2, h3⟩ := bq_inv (fun m s k => mX11_lookAhead_L15 m (nI k) s) 192
    (fun k s => (∀ a, (a < 157 ∨ 158 < a) → a ≠ 144 → s a = t a) ∧ s 144 = sp_seq N D X g V k ∧ ∀ j, j < k → s 157 j = nI (sp_hd N D X g V j) ∧ s 158 j = sp_seq N D X g V (j + 1) 22)
    (fun s => (∀ a, (a < 157 ∨ 158 < a) → a ≠ 144 → s a = t a) ∧ s 144 = sp_seq N D X g V 192 ∧ ∀ j, j < 192 → s 157 j = nI (sp_hd N D X g V j) ∧ s 158 j = sp_seq N D X g V (j + 1) 22) (by
    intro m k s hk ⟨p1, p2, p3⟩
    by_cases h : k = 192
    · subst h
      exact Or.inl ⟨_, by simp only [mX11_lookAhead_L15]; rw [if_pos (show (192 : Int32) ≤ nI 192 from Int32.le_refl _)], p1, p2, p3⟩
    · have hlt : k < 192 := by omega
      have hAs : sp_ag s N := hA.to (fun a z1 z2 => by rw [p1 a (by omega) (by omega), hto a (by omega)])
      obtain ⟨w, hw, hwo, hw4⟩ := rf_pass hAs hE (by rw [p2]; exact sp_seq_wf hE hW k (by omega)) (by omega)
      rw [p2] at hw hw4
      refine Or.inr ⟨hlt, bo_up (bo_up w 157 k (nI (sp_hd N D X g V k))) 158 k (sp_seq N D X g V (k + 1) 22), ⟨fun a ha ha2 => ?_, ?_, fun j hj => ?_⟩, ?_⟩
      · rw [bq_up_o (by omega), bq_up_o (by omega), hwo a ha2, p1 a ha ha2]
      · rw [bq_up_o (by omega), bq_up_o (by omega), hw4]
        rfl
      · rw [bq_up_o (show 157 ≠ 158 by decide), bq_up, bq_up]
        by_cases hjk : j = k
        · subst hjk
          rw [if_pos ⟨rfl, rfl⟩, if_pos ⟨rfl, rfl⟩]
          exact ⟨rfl, rfl⟩
        · rw [if_neg (fun z => hjk z.2), if_neg (fun z => hjk z.2), bq_up_o (by decide), hwo 157 (by decide), hwo 158 (by decide)]
          exact p3 j (by omega)
      · simp only [mX11_lookAhead_L15]
        rw [if_neg (show ¬ (192 : Int32) ≤ nI k from nI_ge (a := k) (b := 192) (by omega) (by decide)), hw, Option.bind_some]
        dsimp only
        rw [bq_st hlt (by decide), Option.bind_some, show bo_ld 107 (bo_up w 157 k _) 144 22 = some (bo_up w 157 k _ 144 22) from rf_ldk 22 (by decide), Option.bind_some, bq_up_o (show 144 ≠ 157 by decide), hw4, bq_st hlt (by decide), Option.bind_some, nI_1]
        rfl) bo_fuel 0 t (Nat.zero_le _) (bq_fuel (by omega)) ⟨fun _ _ _ => rfl, by rw [hto 144 (by decide), ← hV]; rfl, fun j hj => absurd hj (Nat.not_lt_zero _)⟩
  rw [show mX11_lookAhead_L15 bo_fuel 0 t = some s from by rw [← nI_0]; exact hs, Option.bind_some, show mX11_copyRow s 107 156 107 144 107 = some _ from rf_copy (m := 107) (by decide) (by decide) (by decide) (by decide) (by decide) (by decide), Option.bind_some]
  refine ⟨_, rfl, fun a ha => ?_, fun k hk => ?_⟩
  · funext b
    by_cases h4 : a = 144
    · subst h4
      by_cases hb : b < 107
      · rw [if_pos ⟨rfl, hb⟩, h1 156 (by decide) (by decide), ht6 b hb, hV]
      · rw [if_neg (fun z => hb z.2), h2, sp_seq_far (by omega), hV]
    · rw [if_neg (fun z => h4 z.1), h1 a (by omega) h4, hto a (by omega)]
  · rw [if_neg (by omega), if_neg (by omega)]
    exact h3 k hk
/-- the first of m places from j on with k or more -/
def sp_fh (f : Nat → Int32) (k : Int32) : Nat → Nat → Int32
  | 0, _ => -1
  | m + 1, j => if f j < k then sp_fh f k m (j + 1) else nI j
theorem sp_fh_cong {f h : Nat → Int32} {k : Int32} : ∀ (m j : Nat), (∀ a, j ≤ a → a < j + m → f a = h a) → sp_fh f k m j = sp_fh h k m j
  | 0, _, _ => rfl
  | m + 1, j, e => by
    unfold sp_fh
    rw [e j (Nat.le_refl _) (by omega), sp_fh_cong m (j + 1) (fun a z1 z2 => e a (by omega) (by omega))]
theorem cl_fh {p : Int32} {q : Nat} (hq : q ≤ 192) : ∀ (n m j : Nat), j + m = q → m < n → mX9_firstHeard_L2 σ p (nI q) n (nI j) = some (sp_fh (σ 23) p m j) := by
  intro n
  induction n with
  | zero => intro m j _ h; exact absurd h (Nat.not_lt_zero _)
  | succ n ih =>
    intro m j hj hm
    cases m with
    | zero =>
      simp only [mX9_firstHeard_L2, sp_fh]
      rw [if_pos (nI_le (by omega) (by omega))]
    | succ m =>
      simp only [mX9_firstHeard_L2, sp_fh]
      rw [if_neg (nI_ge (by omega) (by omega)), if_neg (show ¬ (192 : Int32) ≤ nI j from nI_ge (a := j) (b := 192) (by omega) (by decide)), bq_at (by omega) (by decide), Option.bind_some, nI_1, ih m (j + 1) (by omega) (by omega)]
      split <;> rfl
theorem cl_first_heard {p : Int32} {q : Nat} (hq : q ≤ 192) : mX9_firstHeard σ p (nI q) = some (sp_fh (σ 23) p q 0) := by
  unfold mX9_firstHeard
  rw [← nI_0]
  exact cl_fh hq bo_fuel q 0 (by omega) (bq_fuel (by omega))
theorem rf_fh {p : Int32} {q : Nat} (hq : q ≤ 192) : ∀ (n m j : Nat), j + m = q → m < n → mX11_firstHeard_L2 σ p (nI q) n (nI j) = some (sp_fh (σ 157) p m j) := by
  intro n
  induction n with
  | zero => intro m j _ h; exact absurd h (Nat.not_lt_zero _)
  | succ n ih =>
    intro m j hj hm
    cases m with
    | zero =>
      simp only [mX11_firstHeard_L2, sp_fh]
      rw [if_pos (nI_le (by omega) (by omega))]
    | succ m =>
      simp only [mX11_firstHeard_L2, sp_fh]
      rw [if_neg (nI_ge (by omega) (by omega)), bq_ld (by omega) (by decide), Option.bind_some, nI_1, ih m (j + 1) (by omega) (by omega)]
      split <;> rfl
theorem rf_first_heard {p : Int32} {q : Nat} (hq : q ≤ 192) : mX11_firstHeard σ p (nI q) = some (sp_fh (σ 157) p q 0) := by
  unfold mX11_firstHeard
  rw [← nI_0]
  exact rf_fh hq bo_fuel q 0 (by omega) (bq_fuel (by omega))
end TRI
