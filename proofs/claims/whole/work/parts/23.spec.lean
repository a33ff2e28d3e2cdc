/-! THE COMMON PICTURE. N: a memory of which the reference's INN is read (135: 0 to 4, 8, 11, 14; 136 to 143). V: the reference's row 'now' (107 places). -/
def sp_env (N : bo_M) (D G S X : Nat) : Prop :=
  (N 135 4 = nI D ∧ D ≤ 7) ∧ (N 135 11 = nI G ∧ G ≤ 6) ∧ (N 135 14 = nI S ∧ S ≤ 5) ∧ (N 135 8 = nI X ∧ X ≤ 4) ∧ bq_r (N 135 1) 0 1 ∧ bq_r (N 135 2) 0 9 ∧ bq_r (N 135 3) 0 127 ∧
  (∀ d, d < D → bq_r (N 136 d) 1 40 ∧ bq_r (N 137 d) 1 20 ∧ bq_r (N 138 d) 0 100) ∧ (∀ t, t < X → ∃ a l, N 139 t = nI a ∧ N 140 t = nI l ∧ 1 ≤ l ∧ l ≤ 24 ∧ a + l ≤ 96) ∧
  (∀ g, g < G → bq_r (N 141 g) 0 95 ∧ bq_r (N 142 g) 0 40) ∧ ∀ s, s < S → bq_r (N 143 s) 1 16
theorem sp_env.nD {N : bo_M} {D G S X : Nat} (h : sp_env N D G S X) : N 135 4 = nI D ∧ D ≤ 7 := h.1
theorem sp_env.nG {N : bo_M} {D G S X : Nat} (h : sp_env N D G S X) : N 135 11 = nI G ∧ G ≤ 6 := h.2.1
theorem sp_env.nS {N : bo_M} {D G S X : Nat} (h : sp_env N D G S X) : N 135 14 = nI S ∧ S ≤ 5 := h.2.2.1
theorem sp_env.nX {N : bo_M} {D G S X : Nat} (h : sp_env N D G S X) : N 135 8 = nI X ∧ X ≤ 4 := h.2.2.2.1
theorem sp_env.echo {N : bo_M} {D G S X : Nat} (h : sp_env N D G S X) : bq_r (N 135 1) 0 1 := h.2.2.2.2.1
theorem sp_env.takes {N : bo_M} {D G S X : Nat} (h : sp_env N D G S X) : bq_r (N 135 2) 0 9 := h.2.2.2.2.2.1
theorem sp_env.wet {N : bo_M} {D G S X : Nat} (h : sp_env N D G S X) : bq_r (N 135 3) 0 127 := h.2.2.2.2.2.2.1
theorem sp_env.dr {N : bo_M} {D G S X : Nat} (h : sp_env N D G S X) : ∀ d, d < D → bq_r (N 136 d) 1 40 ∧ bq_r (N 137 d) 1 20 ∧ bq_r (N 138 d) 0 100 := h.2.2.2.2.2.2.2.1
theorem sp_env.ti {N : bo_M} {D G S X : Nat} (h : sp_env N D G S X) : ∀ t, t < X → ∃ a l, N 139 t = nI a ∧ N 140 t = nI l ∧ 1 ≤ l ∧ l ≤ 24 ∧ a + l ≤ 96 := h.2.2.2.2.2.2.2.2.1
theorem sp_env.go {N : bo_M} {D G S X : Nat} (h : sp_env N D G S X) : ∀ g, g < G → bq_r (N 141 g) 0 95 ∧ bq_r (N 142 g) 0 40 := h.2.2.2.2.2.2.2.2.2.1
theorem sp_env.si {N : bo_M} {D G S X : Nat} (h : sp_env N D G S X) : ∀ s, s < S → bq_r (N 143 s) 1 16 := h.2.2.2.2.2.2.2.2.2.2
/-- a memory with the same INN of the reference's -/
def sp_ag (σ N : bo_M) : Prop := (∀ b, (b ≤ 4 ∨ b = 8 ∨ b = 11 ∨ b = 14) → σ 135 b = N 135 b) ∧ ∀ a, 136 ≤ a → a ≤ 143 → ∀ b, σ a b = N a b
theorem sp_ag.rf {σ : bo_M} : sp_ag σ σ := ⟨fun _ _ => rfl, fun _ _ _ _ => rfl⟩
def sp_any (b : Nat → Bool) : Nat → Bool
  | 0 => false
  | n + 1 => sp_any b n || b n
theorem sp_any_iff (b : Nat → Bool) : ∀ n, sp_any b n = true ↔ ∃ k, k < n ∧ b k = true
  | 0 => by simp [sp_any]
  | n + 1 => by
    unfold sp_any
    rw [Bool.or_eq_true, sp_any_iff b n]
    constructor
    · rintro (⟨k, h1, h2⟩ | h)
      · exact ⟨k, by omega, h2⟩
      · exact ⟨n, by omega, h⟩
    · rintro ⟨k, h1, h2⟩
      by_cases e : k = n
      · subst e; exact Or.inr h2
      · exact Or.inl ⟨k, by omega, h2⟩
/-- the sexton has the BLANKET on in QUARTER q of the day -/
def sp_bl (N : bo_M) (X q : Nat) : Bool := sp_any (fun t => decide ((N 139 t).toNatClampNeg ≤ q ∧ q < (N 139 t).toNatClampNeg + (N 140 t).toNatClampNeg)) X
/-- the class's INN i is that INN -/
def sp_inn (σ : bo_M) (i : Nat) (N : bo_M) (D G S X : Nat) : Prop :=
  (σ i 7 &&& 1 = N 135 0 &&& 1) ∧ σ i 8 = N 135 1 ∧ σ i 9 = N 135 2 ∧ σ i 10 = N 135 3 ∧ σ i 11 = nI D ∧ σ i 13 = nI G ∧ σ i 14 = nI S ∧
  (∀ d, d < D → σ (i + 1) d = N 136 d ∧ σ (i + 2) d = N 137 d ∧ σ (i + 3) d = N 138 d) ∧ (∀ g, g < G → σ (i + 4) g = N 141 g ∧ σ (i + 5) g = N 142 g) ∧ (∀ s, s < S → σ (i + 6) s = N 143 s) ∧
  ∀ q, q < 96 → σ (i + 7) q = if sp_bl N X q then 1 else 0
section SPI
variable {σ : bo_M} {i : Nat} {N : bo_M} {D G S X : Nat}
theorem sp_inn.open_ (h : sp_inn σ i N D G S X) : σ i 7 &&& 1 = N 135 0 &&& 1 := h.1
theorem sp_inn.echo (h : sp_inn σ i N D G S X) : σ i 8 = N 135 1 := h.2.1
theorem sp_inn.takes (h : sp_inn σ i N D G S X) : σ i 9 = N 135 2 := h.2.2.1
theorem sp_inn.wet (h : sp_inn σ i N D G S X) : σ i 10 = N 135 3 := h.2.2.2.1
theorem sp_inn.nD (h : sp_inn σ i N D G S X) : σ i 11 = nI D := h.2.2.2.2.1
theorem sp_inn.nG (h : sp_inn σ i N D G S X) : σ i 13 = nI G := h.2.2.2.2.2.1
theorem sp_inn.nS (h : sp_inn σ i N D G S X) : σ i 14 = nI S := h.2.2.2.2.2.2.1
theorem sp_inn.dr (h : sp_inn σ i N D G S X) : ∀ d, d < D → σ (i + 1) d = N 136 d ∧ σ (i + 2) d = N 137 d ∧ σ (i + 3) d = N 138 d := h.2.2.2.2.2.2.2.1
theorem sp_inn.go (h : sp_inn σ i N D G S X) : ∀ g, g < G → σ (i + 4) g = N 141 g ∧ σ (i + 5) g = N 142 g := h.2.2.2.2.2.2.2.2.1
theorem sp_inn.si (h : sp_inn σ i N D G S X) : ∀ s, s < S → σ (i + 6) s = N 143 s := h.2.2.2.2.2.2.2.2.2.1
theorem sp_inn.bl (h : sp_inn σ i N D G S X) : ∀ q, q < 96 → σ (i + 7) q = if sp_bl N X q then 1 else 0 := h.2.2.2.2.2.2.2.2.2.2
/-- what it reads -/
theorem sp_inn.to {σ' : bo_M} (h : sp_inn σ i N D G S X) (hs : ∀ a, i ≤ a → a ≤ i + 7 → σ' a = σ a) : sp_inn σ' i N D G S X := by
  refine ⟨?_, ?_, ?_, ?_, ?_, ?_, ?_, fun d hd => ?_, fun g hg => ?_, fun s hsS => ?_, fun q hq => ?_⟩
  · rw [hs i (by omega) (by omega)]; exact h.open_
  · rw [hs i (by omega) (by omega)]; exact h.echo
  · rw [hs i (by omega) (by omega)]; exact h.takes
  · rw [hs i (by omega) (by omega)]; exact h.wet
  · rw [hs i (by omega) (by omega)]; exact h.nD
  · rw [hs i (by omega) (by omega)]; exact h.nG
  · rw [hs i (by omega) (by omega)]; exact h.nS
  · rw [hs (i + 1) (by omega) (by omega), hs (i + 2) (by omega) (by omega), hs (i + 3) (by omega) (by omega)]; exact h.dr d hd
  · rw [hs (i + 4) (by omega) (by omega), hs (i + 5) (by omega) (by omega)]; exact h.go g hg
  · rw [hs (i + 6) (by omega) (by omega)]; exact h.si s hsS
  · rw [hs (i + 7) (by omega) (by omega)]; exact h.bl q hq
end SPI
/-- the row 'now': its bounds; g QUARTERS have gone, B at most -/
def sp_wf (D B : Nat) (V : Nat → Int32) (g : Nat) : Prop :=
  (∀ d, d < 7 → bq_r (V d) 0 1 ∧ bq_r (V (7 + d)) 0 20 ∧ bq_r (V (14 + d)) 0 39) ∧ (∀ d, D ≤ d → d < 7 → V (7 + d) = 0) ∧
  (V 21 = nI g ∧ g ≤ B) ∧ V 26 = nI (min g 40) ∧ bq_r (V 22) 0 11 ∧ bq_r (V 23) 0 96 ∧ bq_r (V 25) 0 2 ∧ ∀ k, k < min g 40 → bq_r (V (27 + k)) 0 8 ∧ bq_r (V (67 + k)) 0 7
section SPW
variable {D B : Nat} {V : Nat → Int32} {g : Nat}
theorem sp_wf.dr (h : sp_wf D B V g) : ∀ d, d < 7 → bq_r (V d) 0 1 ∧ bq_r (V (7 + d)) 0 20 ∧ bq_r (V (14 + d)) 0 39 := h.1
theorem sp_wf.no (h : sp_wf D B V g) : ∀ d, D ≤ d → d < 7 → V (7 + d) = 0 := h.2.1
theorem sp_wf.ng (h : sp_wf D B V g) : V 21 = nI g ∧ g ≤ B := h.2.2.1
theorem sp_wf.L (h : sp_wf D B V g) : V 26 = nI (min g 40) := h.2.2.2.1
theorem sp_wf.bell (h : sp_wf D B V g) : bq_r (V 22) 0 11 := h.2.2.2.2.1
theorem sp_wf.hung (h : sp_wf D B V g) : bq_r (V 23) 0 96 := h.2.2.2.2.2.1
theorem sp_wf.rain (h : sp_wf D B V g) : bq_r (V 25) 0 2 := h.2.2.2.2.2.2.1
theorem sp_wf.lg (h : sp_wf D B V g) : ∀ k, k < min g 40 → bq_r (V (27 + k)) 0 8 ∧ bq_r (V (67 + k)) 0 7 := h.2.2.2.2.2.2.2
theorem sp_wf.le (h : sp_wf D B V g) {B' : Nat} (hB : B ≤ B') : sp_wf D B' V g := ⟨h.1, h.2.1, ⟨h.ng.1, Nat.le_trans h.ng.2 hB⟩, h.2.2.2⟩
end SPW
/-- the class's evening e is that row -/
def sp_rep (σ : bo_M) (e D : Nat) (V : Nat → Int32) (g : Nat) : Prop :=
  σ e 4 = V 21 ∧ σ e 5 = nI (sp_set (fun d => decide (V d = 1)) D) ∧ σ e 6 = V 22 ∧ σ e 7 = V 23 ∧ σ e 8 = V 24 ∧ σ e 9 = V 25 ∧ (∀ d, d < 7 → σ (e + 1) d = V (7 + d) ∧ σ (e + 2) d = V (14 + d)) ∧
  ∀ k, k < min g 40 → σ (e + 3) ((g - min g 40 + k) % 40) = V (27 + k) ∧ σ (e + 4) ((g - min g 40 + k) % 40) = V (67 + k)
section SPR
variable {σ : bo_M} {e D : Nat} {V : Nat → Int32} {g : Nat}
theorem sp_rep.gone (h : sp_rep σ e D V g) : σ e 4 = V 21 := h.1
theorem sp_rep.ins (h : sp_rep σ e D V g) : σ e 5 = nI (sp_set (fun d => decide (V d = 1)) D) := h.2.1
theorem sp_rep.bell (h : sp_rep σ e D V g) : σ e 6 = V 22 := h.2.2.1
theorem sp_rep.hung (h : sp_rep σ e D V g) : σ e 7 = V 23 := h.2.2.2.1
theorem sp_rep.paid (h : sp_rep σ e D V g) : σ e 8 = V 24 := h.2.2.2.2.1
theorem sp_rep.rain (h : sp_rep σ e D V g) : σ e 9 = V 25 := h.2.2.2.2.2.1
theorem sp_rep.dr (h : sp_rep σ e D V g) : ∀ d, d < 7 → σ (e + 1) d = V (7 + d) ∧ σ (e + 2) d = V (14 + d) := h.2.2.2.2.2.2.1
theorem sp_rep.lg (h : sp_rep σ e D V g) : ∀ k, k < min g 40 → σ (e + 3) ((g - min g 40 + k) % 40) = V (27 + k) ∧ σ (e + 4) ((g - min g 40 + k) % 40) = V (67 + k) := h.2.2.2.2.2.2.2
theorem sp_rep.to {σ' : bo_M} (h : sp_rep σ e D V g) (hs : ∀ a, e ≤ a → a ≤ e + 4 → σ' a = σ a) : sp_rep σ' e D V g := by
  refine ⟨?_, ?_, ?_, ?_, ?_, ?_, fun d hd => ?_, fun k hk => ?_⟩
  · rw [hs e (by omega) (by omega)]; exact h.gone
  · rw [hs e (by omega) (by omega)]; exact h.ins
  · rw [hs e (by omega) (by omega)]; exact h.bell
  · rw [hs e (by omega) (by omega)]; exact h.hung
  · rw [hs e (by omega) (by omega)]; exact h.paid
  · rw [hs e (by omega) (by omega)]; exact h.rain
  · rw [hs (e + 1) (by omega) (by omega), hs (e + 2) (by omega) (by omega)]; exact h.dr d hd
  · rw [hs (e + 3) (by omega) (by omega), hs (e + 4) (by omega) (by omega)]; exact h.lg k hk
end SPR
/-! what is rung and heard -/
def sp_first (V : Nat → Int32) : Bool := decide (bo_irm (V 21) 96 = 0)
def sp_turn (N : bo_M) (V : Nat → Int32) (q : Int32) (d : Nat) : Bool := decide (bo_irm (q + V (14 + d)) (N 136 d) = 0)
def sp_fullb (N : bo_M) (V : Nat → Int32) (d : Nat) : Bool := !sp_first V && !decide (V (7 + d) < N 137 d)
def sp_ring (N : bo_M) (V : Nat → Int32) (d : Nat) : Bool := sp_turn N V (V 21) d && decide (V d = 1) && !sp_fullb N V d
def sp_wet (N : bo_M) (V : Nat → Int32) : Bool := if V 25 = 0 then decide (((N 135 3 >>> (bo_irm (V 21 / 96) 7 &&& 31)) &&& 1) = 1) else decide (V 25 = 1)
def sp_cov (N : bo_M) (X : Nat) (V : Nat → Int32) (g : Nat) : Bool := decide (0 < V 23) || sp_bl N X (g % 96)
/-- HEARD of so many that are left of the rope, when the BLANKET takes so many -/
def sp_muf (N : bo_M) (a t : Nat) : Nat := if a ≤ t then 0 else a - t + (N 135 1).toNatClampNeg
def sp_heard (N : bo_M) (X : Nat) (V : Nat → Int32) (g r : Nat) : Nat := sp_muf N (if sp_wet N V then r / 2 else r) (if sp_cov N X V g then (N 135 2).toNatClampNeg else 0)
