/-! THE RELATION of the class's part of the memory and the reference's -/
def in_text (σ : bo_M) : Prop := ∃ m, m ≤ 240 ∧ σ 1 4 = nI m ∧ σ 135 19 = nI m ∧ (∀ k, k < m → σ 2 k = σ 145 k ∧ bq_r (σ 2 k) 0 255) ∧ σ 1 5 = σ 135 20
def in_seed (σ : bo_M) : Prop := σ 0 11 = σ 135 17 ∧ 0 ≤ σ 0 11
def in_house (σ : bo_M) (D G S X : Nat) : Prop := sp_env σ D G S X ∧ sp_inn σ (bo_inn (σ 0 9)) σ D G S X ∧ ((σ 0 9 = 0 ∧ σ 0 10 = 1) ∨ (σ 0 9 = 1 ∧ σ 0 10 = 0))
def in_now (σ : bo_M) (D g : Nat) : Prop := sp_wf D 90096 (σ 144) g ∧ sp_rep σ 50 D (σ 144) g
def in_snap (σ : bo_M) (e D : Nat) (V : Nat → Int32) : Prop := ∃ g, sp_wf D 90096 V g ∧ sp_rep σ e D V g
def in_past (σ : bo_M) (D : Nat) : Prop := ∃ (u : Nat) (π : Nat → Nat), u ≤ 16 ∧ σ 3 1 = nI u ∧ σ 135 38 = nI u ∧ (∀ i, i < 16 → σ 4 i = nI (π i) ∧ π i < 16) ∧ (∀ i j, i < 16 → j < 16 → π i = π j → i = j) ∧
  ∀ i, i < u → in_snap σ (55 + 5 * π i) D (fun k => σ 155 (107 * i + k))
def in_img (σ : bo_M) (D : Nat) : Prop := ∀ j, j < 2 → bq_r (σ 167 j) 0 1 ∧ (σ (5 + 6 * j) 2 &&& 1 = σ 167 j) ∧ (σ 167 j = 1 → in_snap σ (6 + 6 * j) D (fun k => σ 166 (108 * j + k)) ∧ σ (5 + 6 * j) 1 = σ 166 (108 * j + 107) ∧ 0 ≤ σ 166 (108 * j + 107))
def in_known (σ : bo_M) : Prop := ∃ w, w ≤ 6 ∧ σ 24 4 = nI w ∧ σ 135 44 = nI w ∧ ∀ k, k < w → σ 25 k = σ 160 k ∧ σ 26 k = σ 161 k ∧ bq_r (σ 25 k) 0 95 ∧ bq_r (σ 26 k) 0 16
def in_book (σ : bo_M) (D : Nat) : Prop := ∃ w, w ≤ 15 ∧ σ 29 2 = nI w ∧ σ 135 49 = nI w ∧ ∀ k, k < w → σ 30 k = σ 164 k ∧ σ 31 k = σ 165 k ∧ ∃ d, σ 30 k = nI d ∧ d < D
def in_rest (σ : bo_M) (D : Nat) : Prop := in_text σ ∧ in_seed σ ∧ in_past σ D ∧ in_img σ D ∧ in_known σ ∧ in_book σ D
def in_all (σ : bo_M) : Prop := ∃ D G S X g, in_house σ D G S X ∧ in_now σ D g ∧ in_rest σ D
section INTO
variable {σ σ' : bo_M} {D G S X g e : Nat} {V : Nat → Int32}
theorem in_text.to (h : in_text σ) (h1 : σ' 1 4 = σ 1 4) (h2 : σ' 1 5 = σ 1 5) (h3 : σ' 2 = σ 2) (h4 : σ' 135 19 = σ 135 19) (h5 : σ' 135 20 = σ 135 20) (h6 : σ' 145 = σ 145) : in_text σ' := by
  unfold in_text
  rw [h1, h2, h3, h4, h5, h6]
  exact h
theorem in_seed.to (h : in_seed σ) (h1 : σ' 0 11 = σ 0 11) (h2 : σ' 135 17 = σ 135 17) : in_seed σ' := by
  unfold in_seed
  rw [h1, h2]
  exact h
theorem sp_bl_cong {N M : bo_M} {X q : Nat} (h1 : M 139 = N 139) (h2 : M 140 = N 140) : sp_bl M X q = sp_bl N X q := by
  unfold sp_bl
  rw [h1, h2]
theorem sp_env.to (h : sp_env σ D G S X) (hA : sp_ag σ' σ) : sp_env σ' D G S X := by
  obtain ⟨a1, a2, a3, a4, a5, a6, a7, a8, a9, a10, a11⟩ := h
  unfold sp_env
  rw [hA.1 1 (by decide), hA.1 2 (by decide), hA.1 3 (by decide), hA.1 4 (by decide), hA.1 8 (by decide), hA.1 11 (by decide), hA.1 14 (by decide)]
  refine ⟨a1, a2, a3, a4, a5, a6, a7, fun d hd => ?_, fun t ht => ?_, fun d hd => ?_, fun d hd => ?_⟩
  · rw [hA.2 136 (by decide) (by decide), hA.2 137 (by decide) (by decide), hA.2 138 (by decide) (by decide)]; exact a8 d hd
  · rw [hA.2 139 (by decide) (by decide), hA.2 140 (by decide) (by decide)]; exact a9 t ht
  · rw [hA.2 141 (by decide) (by decide), hA.2 142 (by decide) (by decide)]; exact a10 d hd
  · rw [hA.2 143 (by decide) (by decide)]; exact a11 d hd
/-- the same INN, told out of another memory -/
theorem sp_inn.ag {i : Nat} {N M : bo_M} (h : sp_inn σ i N D G S X) (hA : sp_ag M N) : sp_inn σ i M D G S X := by
  refine ⟨?_, ?_, ?_, ?_, h.nD, h.nG, h.nS, fun d hd => ?_, fun d hd => ?_, fun d hd => ?_, fun q hq => ?_⟩
  · rw [hA.1 0 (by decide)]; exact h.open_
  · rw [hA.1 1 (by decide)]; exact h.echo
  · rw [hA.1 2 (by decide)]; exact h.takes
  · rw [hA.1 3 (by decide)]; exact h.wet
  · rw [hA.2 136 (by decide) (by decide), hA.2 137 (by decide) (by decide), hA.2 138 (by decide) (by decide)]; exact h.dr d hd
  · rw [hA.2 141 (by decide) (by decide), hA.2 142 (by decide) (by decide)]; exact h.go d hd
  · rw [hA.2 143 (by decide) (by decide)]; exact h.si d hd
  · rw [sp_bl_cong (N := N) (M := M) (funext fun b => hA.2 139 (by decide) (by decide) b) (funext fun b => hA.2 140 (by decide) (by decide) b)]; exact h.bl q hq
theorem in_house.to (h : in_house σ D G S X) (h0 : σ' 0 9 = σ 0 9) (h1 : σ' 0 10 = σ 0 10) (hA : sp_ag σ' σ) (hi : ∀ a, 34 ≤ a → a ≤ 49 → σ' a = σ a) : in_house σ' D G S X := by
  refine ⟨h.1.to hA, ?_, by rw [h0, h1]; exact h.2.2⟩
  rw [h0]
  refine (h.2.1.ag hA).to (fun a b c => hi a ?_ ?_)
  · rcases bo_inn_ok (σ 0 9) with z | z <;> omega
  · rcases bo_inn_ok (σ 0 9) with z | z <;> omega
theorem in_now.to (h : in_now σ D g) (h1 : σ' 144 = σ 144) (h2 : ∀ a, 50 ≤ a → a ≤ 54 → σ' a = σ a) : in_now σ' D g := by
  unfold in_now
  rw [h1]
  exact ⟨h.1, h.2.to h2⟩
theorem in_snap.to (h : in_snap σ e D V) (h2 : ∀ a, e ≤ a → a ≤ e + 4 → σ' a = σ a) : in_snap σ' e D V := by
  obtain ⟨g, a, b⟩ := h
  exact ⟨g, a, b.to h2⟩
theorem in_past.to (h : in_past σ D) (h1 : σ' 3 1 = σ 3 1) (h2 : σ' 4 = σ 4) (h3 : σ' 135 38 = σ 135 38) (h4 : σ' 155 = σ 155) (h5 : ∀ a, 55 ≤ a → a ≤ 134 → σ' a = σ a) : in_past σ' D := by
  obtain ⟨u, π, a1, a2, a3, a4, a5, a6⟩ := h
  refine ⟨u, π, a1, by rw [h1]; exact a2, by rw [h3]; exact a3, by rw [h2]; exact a4, a5, fun i hi => ?_⟩
  rw [h4]
  refine (a6 i hi).to (fun a b c => h5 a (by omega) ?_)
  have := (a4 i (by omega)).2
  omega
theorem in_img.to (h : in_img σ D) (h1 : σ' 166 = σ 166) (h2 : σ' 167 = σ 167) (h3 : ∀ a, 5 ≤ a → a ≤ 16 → σ' a = σ a) : in_img σ' D := by
  intro j hj
  obtain ⟨a1, a2, a3⟩ := h j hj
  rw [h1, h2, h3 (5 + 6 * j) (by omega) (by omega)]
  refine ⟨a1, a2, fun z => ?_⟩
  obtain ⟨b1, b2, b3⟩ := a3 z
  exact ⟨b1.to (fun a _ _ => h3 a (by omega) (by omega)), b2, b3⟩
theorem in_known.to (h : in_known σ) (h1 : σ' 24 4 = σ 24 4) (h2 : σ' 135 44 = σ 135 44) (h3 : σ' 25 = σ 25) (h4 : σ' 26 = σ 26) (h5 : σ' 160 = σ 160) (h6 : σ' 161 = σ 161) : in_known σ' := by
  unfold in_known
  rw [h1, h2, h3, h4, h5, h6]
  exact h
theorem in_book.to (h : in_book σ D) (h1 : σ' 29 2 = σ 29 2) (h2 : σ' 135 49 = σ 135 49) (h3 : σ' 30 = σ 30) (h4 : σ' 31 = σ 31) (h5 : σ' 164 = σ 164) (h6 : σ' 165 = σ 165) : in_book σ' D := by
  unfold in_book
  rw [h1, h2, h3, h4, h5, h6]
  exact h
/-- the cells that the relation doesn't speak of -/
def in_scr (a b : Nat) : Prop := (18 ≤ a ∧ a ≤ 23) ∨ a = 27 ∨ a = 28 ∨ (a = 24 ∧ b = 5) ∨ a = 33 ∨ (156 ≤ a ∧ a ≤ 159) ∨ a = 162 ∨ a = 163
theorem in_ro (h : ∀ a b, ¬ in_scr a b → σ' a b = σ a b) {a : Nat} (ha : ∀ b, ¬ in_scr a b) : σ' a = σ a := funext fun b => h a b (ha b)
theorem in_all.scr (h : in_all σ) (hs : ∀ a b, ¬ in_scr a b → σ' a b = σ a b) : in_all σ' := by
  obtain ⟨D, G, S, X, g, h1, h2, h3, h4, h5, h6, h7, h8⟩ := h
  have r : ∀ a, ¬ (18 ≤ a ∧ a ≤ 23) → a ≠ 24 → a ≠ 27 → a ≠ 28 → a ≠ 33 → ¬ (156 ≤ a ∧ a ≤ 159) → a ≠ 162 → a ≠ 163 → σ' a = σ a := by
    intro a z1 z2 z3 z4 z5 z6 z7 z8
    exact in_ro hs (fun b z => by unfold in_scr at z; omega)
  have r135 := r 135 (by omega) (by omega) (by omega) (by omega) (by omega) (by omega) (by omega) (by omega)
  have r0 := r 0 (by omega) (by omega) (by omega) (by omega) (by omega) (by omega) (by omega) (by omega)
  refine ⟨D, G, S, X, g, h1.to (by rw [r0]) (by rw [r0]) ⟨fun b _ => by rw [r135], fun a z1 z2 b => by rw [r a (by omega) (by omega) (by omega) (by omega) (by omega) (by omega) (by omega) (by omega)]⟩ (fun a z1 z2 => r a (by omega) (by omega) (by omega) (by omega) (by omega) (by omega) (by omega) (by omega)),
    h2.to (r 144 (by omega) (by omega) (by omega) (by omega) (by omega) (by omega) (by omega) (by omega)) (fun a z1 z2 => r a (by omega) (by omega) (by omega) (by omega) (by omega) (by omega) (by omega) (by omega)),
    h3.to (by rw [r 1 (by omega) (by omega) (by omega) (by omega) (by omega) (by omega) (by omega) (by omega)]) (by rw [r 1 (by omega) (by omega) (by omega) (by omega) (by omega) (by omega) (by omega) (by omega)]) (r 2 (by omega) (by omega) (by omega) (by omega) (by omega) (by omega) (by omega) (by omega)) (by rw [r135]) (by rw [r135]) (r 145 (by omega) (by omega) (by omega) (by omega) (by omega) (by omega) (by omega) (by omega)),
    h4.to (by rw [r0]) (by rw [r135]),
    h5.to (by rw [r 3 (by omega) (by omega) (by omega) (by omega) (by omega) (by omega) (by omega) (by omega)]) (r 4 (by omega) (by omega) (by omega) (by omega) (by omega) (by omega) (by omega) (by omega)) (by rw [r135]) (r 155 (by omega) (by omega) (by omega) (by omega) (by omega) (by omega) (by omega) (by omega)) (fun a z1 z2 => r a (by omega) (by omega) (by omega) (by omega) (by omega) (by omega) (by omega) (by omega)),
    h6.to (r 166 (by omega) (by omega) (by omega) (by omega) (by omega) (by omega) (by omega) (by omega)) (r 167 (by omega) (by omega) (by omega) (by omega) (by omega) (by omega) (by omega) (by omega)) (fun a z1 z2 => r a (by omega) (by omega) (by omega) (by omega) (by omega) (by omega) (by omega) (by omega)),
    h7.to (hs 24 4 (by unfold in_scr; omega)) (by rw [r135]) (r 25 (by omega) (by omega) (by omega) (by omega) (by omega) (by omega) (by omega) (by omega)) (r 26 (by omega) (by omega) (by omega) (by omega) (by omega) (by omega) (by omega) (by omega)) (r 160 (by omega) (by omega) (by omega) (by omega) (by omega) (by omega) (by omega) (by omega)) (r 161 (by omega) (by omega) (by omega) (by omega) (by omega) (by omega) (by omega) (by omega)),
    h8.to (by rw [r 29 (by omega) (by omega) (by omega) (by omega) (by omega) (by omega) (by omega) (by omega)]) (by rw [r135]) (r 30 (by omega) (by omega) (by omega) (by omega) (by omega) (by omega) (by omega) (by omega)) (r 31 (by omega) (by omega) (by omega) (by omega) (by omega) (by omega) (by omega) (by omega)) (r 164 (by omega) (by omega) (by omega) (by omega) (by omega) (by omega) (by omega) (by omega)) (r 165 (by omega) (by omega) (by omega) (by omega) (by omega) (by omega) (by omega) (by omega))⟩
/-- rows 'now' that agree where anything is read -/
theorem sp_wf.cong {B : Nat} {U : Nat → Int32} (h : sp_wf D B V g) (hU : ∀ j, j < 107 → U j = V j) : sp_wf D B U g := by
  refine ⟨fun d hd => ?_, fun d h1 h2 => ?_, ?_, ?_, ?_, ?_, ?_, fun k hk => ?_⟩
  · rw [hU d (by omega), hU (7 + d) (by omega), hU (14 + d) (by omega)]; exact h.dr d hd
  · rw [hU (7 + d) (by omega)]; exact h.no d h1 h2
  · rw [hU 21 (by omega)]; exact h.ng
  · rw [hU 26 (by omega)]; exact h.L
  · rw [hU 22 (by omega)]; exact h.bell
  · rw [hU 23 (by omega)]; exact h.hung
  · rw [hU 25 (by omega)]; exact h.rain
  · rw [hU (27 + k) (by omega), hU (67 + k) (by omega)]; exact h.lg k hk
theorem sp_rep.cong {U : Nat → Int32} (hD : D ≤ 7) (h : sp_rep σ e D V g) (hU : ∀ j, j < 107 → U j = V j) : sp_rep σ e D U g := by
  refine ⟨?_, ?_, ?_, ?_, ?_, ?_, fun d hd => ?_, fun k hk => ?_⟩
  · rw [hU 21 (by omega)]; exact h.gone
  · rw [h.ins]; congr 1; exact sp_set_cong (fun d hd => by rw [hU d (by omega)])
  · rw [hU 22 (by omega)]; exact h.bell
  · rw [hU 23 (by omega)]; exact h.hung
  · rw [hU 24 (by omega)]; exact h.paid
  · rw [hU 25 (by omega)]; exact h.rain
  · rw [hU (7 + d) (by omega), hU (14 + d) (by omega)]; exact h.dr d hd
  · rw [hU (27 + k) (by omega), hU (67 + k) (by omega)]; exact h.lg k hk
end INTO
/-! numbers that a call is given -/
theorem bq_rng {p : Int32} {a b : Nat} (h1 : nI a ≤ p) (h2 : p ≤ nI b) (ha : a < 2 ^ 31) (hb : b < 2 ^ 31) : ∃ k, p = nI k ∧ a ≤ k ∧ k ≤ b := by
  have x := (fa_le _ _).mp h1
  have y := (fa_le _ _).mp h2
  rw [nI_toInt ha] at x
  rw [nI_toInt hb] at y
  refine ⟨p.toInt.toNat, Int32.toInt_inj.mp ?_, by omega, by omega⟩
  rw [nI_toInt (by omega)]
  omega
theorem bq_nlt {a b : Int32} : ¬ a < b ↔ b ≤ a := ⟨fa_of_nlt, fun h z => by
  have x := (fa_le _ _).mp h
  have y := (fa_lt _ _).mp z
  omega⟩
theorem bq_nle {a b : Int32} : ¬ a ≤ b ↔ b < a := ⟨fa_of_nle, fun h z => by
  have x := (fa_le _ _).mp z
  have y := (fa_lt _ _).mp h
  omega⟩
theorem cl_rng {p lo hi : Int32} : (if p < lo then some (1 : Int32) else if p ≤ hi then some 0 else some 1) = some (if lo ≤ p ∧ p ≤ hi then 0 else 1) := by
  by_cases h1 : p < lo
  · rw [if_pos h1, if_neg (fun z => bq_nlt.mpr z.1 h1)]
  · rw [if_neg h1]
    by_cases h2 : p ≤ hi
    · rw [if_pos h2, if_pos ⟨fa_of_nlt h1, h2⟩]
    · rw [if_neg h2, if_neg (fun z => h2 z.2)]
def sp_open (σ : bo_M) : Bool := !decide (σ 135 0 &&& 1 = 0)
theorem cl_refused {σ : bo_M} {D G S X : Nat} (h : in_house σ D G S X) (c : Prop) [Decidable c] : mX10_refused σ (if c then 0 else 1) = some (if c then (if sp_open σ then 0 else -1000000003) else -1000000002) := by
  unfold mX10_refused sp_open
  rw [h.2.1.open_]
  by_cases hc : c
  · rw [if_pos hc, if_pos rfl, if_pos hc]
    by_cases ho : σ 135 0 &&& 1 = 0
    · rw [if_pos ho]; simp [ho]
    · rw [if_neg ho]; simp [ho]
  · rw [if_neg hc, if_neg (by decide), if_neg hc]
theorem sp_open_t {σ : bo_M} (h : sp_open σ = true) : ¬ (σ 135 0 &&& 1 = 0) := by
  unfold sp_open at h
  simpa using h
theorem sp_open_f {σ : bo_M} (h : sp_open σ = false) : σ 135 0 &&& 1 = 0 := by
  unfold sp_open at h
  simpa using h
