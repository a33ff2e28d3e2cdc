/-! rows; a QUARTER goes by -/
theorem bq_zero {σ : bo_M} {n o : Nat} (hn : n ≤ 300) : mX8_zero σ n o = some (fun a b => if a = o ∧ b < n then 0 else σ a b) := by
  obtain ⟨b, hb, hq⟩ := bq_inv (fun m s k => mX8_zero_L7 n o m (nI k) s) n (fun k s => s = fun a b => if a = o ∧ b < k then 0 else σ a b) (fun r => r = fun a b => if a = o ∧ b < n then 0 else σ a b) (by
    intro m k s hk hs
    by_cases h : k = n
    · subst h
      exact Or.inl ⟨_, by simp only [mX8_zero_L7]; rw [show Int32.ofNat k = nI k from rfl, if_pos (Int32.le_refl _)], hs⟩
    · have hlt : k < n := by omega
      refine Or.inr ⟨hlt, bo_up s o k 0, ?_, ?_⟩
      · subst hs
        funext a b
        rw [bq_up]
        by_cases h1 : a = o
        · subst h1
          by_cases h2 : b = k
          · subst h2; simp
          · by_cases h3 : b < k
            · have : b < k + 1 := by omega
              simp [h2, h3, this]
            · have : ¬ b < k + 1 := by omega
              simp [h2, h3, this]
        · simp [h1]
      · simp only [mX8_zero_L7]
        rw [show Int32.ofNat n = nI n from rfl, if_neg (nI_ge hlt (by omega)), bq_st hlt (by omega), Option.bind_some, nI_1]) bo_fuel 0 σ (Nat.zero_le _) (bq_fuel (by omega)) (by funext a b; simp)
  unfold mX8_zero
  rw [← nI_0, show mX8_zero_L7 n o bo_fuel (nI 0) σ = some b from hb, hq, nI_0]
  rfl
theorem bq_cp_step {σ s : bo_M} {o r k : Nat} (hro : r ≠ o) (hs : s = fun a b => if a = o ∧ b < k then σ r b else σ a b) : bo_up s o k (s r k) = fun a b => if a = o ∧ b < k + 1 then σ r b else σ a b := by
  have h0 : s r k = σ r k := by subst hs; simp [hro]
  rw [h0]
  subst hs
  funext a b
  rw [bq_up]
  by_cases h1 : a = o
  · subst h1
    by_cases h2 : b = k
    · subst h2; simp
    · by_cases h3 : b < k
      · have : b < k + 1 := by omega
        simp [h2, h3, this]
      · have : ¬ b < k + 1 := by omega
        simp [h2, h3, this]
  · simp [h1]
theorem bq_copy {σ : bo_M} {n r o : Nat} (hro : r ≠ o) (hn : n ≤ 300) : mX8_copy σ n r n o = some (fun a b => if a = o ∧ b < n then σ r b else σ a b) := by
  obtain ⟨b, hb, hq⟩ := bq_inv (fun m s k => mX8_copy_L11 n r n o m (nI k) s) n (fun k s => s = fun a b => if a = o ∧ b < k then σ r b else σ a b) (fun s => s = fun a b => if a = o ∧ b < n then σ r b else σ a b) (by
    intro m k s hk hs
    by_cases h : k = n
    · subst h
      exact Or.inl ⟨_, by simp only [mX8_copy_L11]; rw [show Int32.ofNat k = nI k from rfl, if_pos (Int32.le_refl _)], hs⟩
    · have hlt : k < n := by omega
      refine Or.inr ⟨hlt, bo_up s o k (s r k), bq_cp_step hro hs, ?_⟩
      simp only [mX8_copy_L11]
      rw [show Int32.ofNat n = nI n from rfl, if_neg (nI_ge hlt (by omega)), if_neg (nI_ge hlt (by omega)), bq_ld hlt (by omega), Option.bind_some, bq_st hlt (by omega), Option.bind_some, nI_1]) bo_fuel 0 σ (Nat.zero_le _) (bq_fuel (by omega)) (by funext a b; simp)
  unfold mX8_copy
  rw [← nI_0, show mX8_copy_L11 n r n o bo_fuel (nI 0) σ = some b from hb, hq]
  rfl
theorem rf_copy {σ : bo_M} {n0 n1 m r o : Nat} (hro : r ≠ o) (h0 : m ≤ n0) (h1 : m ≤ n1) (hn0 : n0 ≤ 3000) (hn1 : n1 ≤ 3000) (hm : m ≤ 300) : mX11_copyRow σ n0 r n1 o (nI m) = some (fun a b => if a = o ∧ b < m then σ r b else σ a b) := by
  obtain ⟨b, hb, hq⟩ := bq_inv (fun j s k => mX11_copyRow_L2 n0 r n1 o (nI m) j (nI k) s) m (fun k s => s = fun a b => if a = o ∧ b < k then σ r b else σ a b) (fun s => s = fun a b => if a = o ∧ b < m then σ r b else σ a b) (by
    intro j k s hk hs
    by_cases h : k = m
    · subst h
      exact Or.inl ⟨_, by simp only [mX11_copyRow_L2]; rw [if_pos (Int32.le_refl _)], hs⟩
    · have hlt : k < m := by omega
      refine Or.inr ⟨hlt, bo_up s o k (s r k), bq_cp_step hro hs, ?_⟩
      simp only [mX11_copyRow_L2]
      rw [if_neg (nI_ge hlt (by omega)), bq_ld (by omega) (by omega), Option.bind_some, bq_st (by omega) (by omega), Option.bind_some, nI_1]) bo_fuel 0 σ (Nat.zero_le _) (bq_fuel (by omega)) (by funext a b; simp)
  unfold mX11_copyRow
  rw [← nI_0, show mX11_copyRow_L2 n0 r n1 o (nI m) bo_fuel (nI 0) σ = some b from hb, hq]
  rfl
theorem bq_up_self {σ : bo_M} {o k : Nat} : bo_up σ o k (σ o k) = σ := by
  funext a b
  rw [bq_up]
  split
  · rename_i h; rw [h.1, h.2]
  · rfl
/-- the row 'now' behind a QUARTER -/
def sp_pass (N : bo_M) (D X g : Nat) (V : Nat → Int32) : Nat → Int32 := fun j =>
  if j < 7 then V j
  else if j < 14 then (if j - 7 < D then (if sp_first V then 0 else V j) + (if sp_ring N V (j - 7) then 1 else 0) else V j)
  else if j < 21 then V j
  else if j = 21 then nI (g + 1)
  else if j = 22 then (if sp_heard N X V g (sp_cnt (sp_ring N V) D) = 0 then V 22 else bo_irm (V 22 + 1) 12)
  else if j = 23 then nI ((V 23).toNatClampNeg - 1)
  else if j = 24 then V 24 + nI (sp_cnt (sp_ring N V) D)
  else if j = 25 then V 25
  else if j = 26 then nI (min (g + 1) 40)
  else if j < 67 then (if 40 ≤ g then (if j = 66 then nI (sp_heard N X V g (sp_cnt (sp_ring N V) D)) else V (j + 1)) else if j = 27 + g then nI (sp_heard N X V g (sp_cnt (sp_ring N V) D)) else V j)
  else if j < 107 then (if 40 ≤ g then (if j = 106 then nI (sp_cnt (sp_ring N V) D) else V (j + 1)) else if j = 67 + g then nI (sp_cnt (sp_ring N V) D) else V j)
  else V j
section SPP
variable {N : bo_M} {D G S X g B : Nat} {V : Nat → Int32}
theorem sp_pass_in {d : Nat} (h : d < 7) : sp_pass N D X g V d = V d := by unfold sp_pass; rw [if_pos h]
theorem sp_pass_pt {d : Nat} (h : d < 7) : sp_pass N D X g V (7 + d) = if d < D then (if sp_first V then 0 else V (7 + d)) + (if sp_ring N V d then 1 else 0) else V (7 + d) := by
  unfold sp_pass
  rw [if_neg (by omega), if_pos (by omega), show 7 + d - 7 = d by omega]
theorem sp_pass_tn {d : Nat} (h : d < 7) : sp_pass N D X g V (14 + d) = V (14 + d) := by
  unfold sp_pass
  rw [if_neg (by omega), if_neg (by omega), if_pos (by omega)]
theorem sp_pass_21 : sp_pass N D X g V 21 = nI (g + 1) := rfl
theorem sp_pass_22 : sp_pass N D X g V 22 = if sp_heard N X V g (sp_cnt (sp_ring N V) D) = 0 then V 22 else bo_irm (V 22 + 1) 12 := rfl
theorem sp_pass_23 : sp_pass N D X g V 23 = nI ((V 23).toNatClampNeg - 1) := rfl
theorem sp_pass_24 : sp_pass N D X g V 24 = V 24 + nI (sp_cnt (sp_ring N V) D) := rfl
theorem sp_pass_25 : sp_pass N D X g V 25 = V 25 := rfl
theorem sp_pass_26 : sp_pass N D X g V 26 = nI (min (g + 1) 40) := rfl
theorem sp_pass_he {k : Nat} (h : k < 40) : sp_pass N D X g V (27 + k) = if 40 ≤ g then (if k = 39 then nI (sp_heard N X V g (sp_cnt (sp_ring N V) D)) else V (27 + (k + 1))) else if k = g then nI (sp_heard N X V g (sp_cnt (sp_ring N V) D)) else V (27 + k) := by
  unfold sp_pass
  rw [if_neg (by omega), if_neg (by omega), if_neg (by omega), if_neg (by omega), if_neg (by omega), if_neg (by omega), if_neg (by omega), if_neg (by omega), if_neg (by omega), if_pos (by omega)]
  by_cases hg : 40 ≤ g
  · rw [if_pos hg, if_pos hg]
    by_cases hk : k = 39
    · rw [if_pos hk, if_pos (by omega)]
    · rw [if_neg hk, if_neg (by omega)]; rfl
  · rw [if_neg hg, if_neg hg]
    by_cases hk : k = g
    · rw [if_pos hk, if_pos (by omega)]
    · rw [if_neg hk, if_neg (by omega)]
theorem sp_pass_ru {k : Nat} (h : k < 40) : sp_pass N D X g V (67 + k) = if 40 ≤ g then (if k = 39 then nI (sp_cnt (sp_ring N V) D) else V (67 + (k + 1))) else if k = g then nI (sp_cnt (sp_ring N V) D) else V (67 + k) := by
  unfold sp_pass
  rw [if_neg (by omega), if_neg (by omega), if_neg (by omega), if_neg (by omega), if_neg (by omega), if_neg (by omega), if_neg (by omega), if_neg (by omega), if_neg (by omega), if_neg (by omega), if_pos (by omega)]
  by_cases hg : 40 ≤ g
  · rw [if_pos hg, if_pos hg]
    by_cases hk : k = 39
    · rw [if_pos hk, if_pos (by omega)]
    · rw [if_neg hk, if_neg (by omega)]; rfl
  · rw [if_neg hg, if_neg hg]
    by_cases hk : k = g
    · rw [if_pos hk, if_pos (by omega)]
    · rw [if_neg hk, if_neg (by omega)]
theorem sp_ring_lt (hE : sp_env N D G S X) (hW : sp_wf D B V g) {d : Nat} (hd : d < D) (h : sp_ring N V d = true) : ∃ p, (if sp_first V then (0 : Int32) else V (7 + d)) = nI p ∧ p ≤ 19 := by
  have h7 := hE.nD.2
  obtain ⟨q, hq, -, hq2⟩ := (hE.dr d hd).2.1
  obtain ⟨p, hp, -, hp2⟩ := (hW.dr d (by omega)).2.1
  cases hf : sp_first V with
  | true => exact ⟨0, rfl, by omega⟩
  | false =>
    refine ⟨p, hp, ?_⟩
    unfold sp_ring sp_fullb at h
    rw [hf, hp, hq] at h
    simp only [Bool.not_false, Bool.true_and, Bool.not_not, Bool.and_eq_true, decide_eq_true_eq] at h
    have := (nI_ltI (by omega) (by omega)).mp h.2
    omega
theorem sp_pass_wf (hE : sp_env N D G S X) (hW : sp_wf D B V g) (hB : B ≤ 1000000) : sp_wf D (B + 1) (sp_pass N D X g V) (g + 1) := by
  have h7 := hE.nD.2
  have hg := hW.ng.2
  have hr := sp_cnt_le (sp_ring N V) D
  have hh := sp_heard_le (N := N) (D := D) (G := G) (S := S) (X := X) (V := V) (g := g) hE (r := sp_cnt (sp_ring N V) D)
  refine ⟨fun d hd => ⟨?_, ?_, ?_⟩, fun d h1 h2 => ?_, ⟨sp_pass_21, by omega⟩, sp_pass_26, ?_, ?_, ?_, fun k hk => ⟨?_, ?_⟩⟩
  · rw [sp_pass_in hd]; exact (hW.dr d hd).1
  · rw [sp_pass_pt hd]
    by_cases hdD : d < D
    · rw [if_pos hdD]
      obtain ⟨p, hp, -, hp2⟩ := (hW.dr d hd).2.1
      cases hc : sp_ring N V d with
      | true =>
        obtain ⟨q, hq, hq2⟩ := sp_ring_lt hE hW hdD hc
        rw [hq]
        exact ⟨q + 1, nI_1 q, by omega, by omega⟩
      | false =>
        cases hf : sp_first V with
        | true => exact ⟨0, rfl, by omega, by omega⟩
        | false => exact ⟨p, by rw [hp]; exact Int32.add_zero _, by omega, by omega⟩
    · rw [if_neg hdD]; exact (hW.dr d hd).2.1
  · rw [sp_pass_tn hd]; exact (hW.dr d hd).2.2
  · rw [sp_pass_pt h2, if_neg (by omega)]; exact hW.no d h1 h2
  · rw [sp_pass_22]
    obtain ⟨b, hb, -, hb2⟩ := hW.bell
    split
    · exact ⟨b, hb, by omega, by omega⟩
    · rw [hb, nI_1, show bo_irm (nI (b + 1)) 12 = nI ((b + 1) % 12) from bq_irm (by omega) (by decide) (by decide)]
      exact ⟨_, rfl, by omega, by omega⟩
  · rw [sp_pass_23]
    obtain ⟨u, hu, -, hu2⟩ := hW.hung
    rw [hu, nI_clamp (by omega)]
    exact ⟨_, rfl, by omega, by omega⟩
  · rw [sp_pass_25]; exact hW.rain
  · rw [sp_pass_he (by omega)]
    split
    · split
      · exact ⟨_, rfl, by omega, by omega⟩
      · exact (hW.lg (k + 1) (by omega)).1
    · split
      · exact ⟨_, rfl, by omega, by omega⟩
      · exact (hW.lg k (by omega)).1
  · rw [sp_pass_ru (by omega)]
    split
    · split
      · exact ⟨_, rfl, by omega, by omega⟩
      · exact (hW.lg (k + 1) (by omega)).2
    · split
      · exact ⟨_, rfl, by omega, by omega⟩
      · exact (hW.lg k (by omega)).2
end SPP
