/-! numbers, bits, memory: what the pure part stands on -/
theorem bq_up (σ : bo_M) (o k : Nat) (v : Int32) (a b : Nat) : bo_up σ o k v a b = if a = o ∧ b = k then v else σ a b := by
  unfold bo_up upd
  by_cases h : a = o <;> by_cases h2 : b = k <;> simp [h, h2]
theorem bq_up_o {σ : bo_M} {o k : Nat} {v : Int32} {a : Nat} (h : a ≠ o) : bo_up σ o k v a = σ a := by
  unfold bo_up; rw [if_neg h]
def bq_r (v : Int32) (lo hi : Nat) : Prop := ∃ n : Nat, v = nI n ∧ lo ≤ n ∧ n ≤ hi
/-- a loop with a counter k up to D: an invariant P, a result that has Q -/
theorem bq_inv {α β : Type} (L : Nat → α → Nat → Option β) (D : Nat) (P : Nat → α → Prop) (Q : β → Prop)
    (h : ∀ n k a, k ≤ D → P k a → (∃ b, L (n + 1) a k = some b ∧ Q b) ∨ (k < D ∧ ∃ a', P (k + 1) a' ∧ L (n + 1) a k = L n a' (k + 1))) :
    ∀ n k a, k ≤ D → D - k < n → P k a → ∃ b, L n a k = some b ∧ Q b := by
  intro n
  induction n with
  | zero => intro k a _ h2; exact absurd h2 (Nat.not_lt_zero _)
  | succ n ih =>
    intro k a hk hn hP
    rcases h n k a hk hP with hb | ⟨hlt, a', hP', he⟩
    · exact hb
    · rw [he]
      exact ih (k + 1) a' hlt (by omega) hP'
theorem bq_31 {n : Nat} (h : n ≤ 100000000) : n < 2 ^ 31 := by omega
theorem bq_ld {σ : bo_M} {n o i : Nat} (h : i < n) (hn : n < 2 ^ 31) : bo_ld n σ o (nI i) = some (σ o i) := by
  unfold bo_ld
  rw [nI_clamp (by omega), if_pos ⟨nI_pos' (by omega), h⟩]
theorem bq_st {σ : bo_M} {n o i : Nat} {v : Int32} (h : i < n) (hn : n < 2 ^ 31) : bo_st n σ o (nI i) v = some (bo_up σ o i v) := by
  unfold bo_st
  rw [nI_clamp (by omega), if_pos ⟨nI_pos' (by omega), h⟩]
theorem bq_at {σ : bo_M} {n o i : Nat} (h : i < n) (hn : n < 2 ^ 31) : mX8_at σ n o (nI i) = some (σ o i) := by
  unfold mX8_at
  rw [if_neg (nI_pos (by omega)), show Int32.ofNat n = nI n from rfl, if_neg (nI_ge h hn), bq_ld h hn]
  rfl
theorem bq_put {σ : bo_M} {n o i : Nat} {v : Int32} (h : i < n) (hn : n < 2 ^ 31) : mX8_put σ n o (nI i) v = some (bo_up σ o i v) := by
  unfold mX8_put
  rw [if_neg (nI_pos (by omega)), show Int32.ofNat n = nI n from rfl, if_neg (nI_ge h hn), bq_st h hn]
  rfl
theorem bq_irm {a d : Nat} (ha : a < 2 ^ 31) (h0 : 0 < d) (hd : d < 2 ^ 31) : bo_irm (nI a) (nI d) = nI (a % d) := pk_rem ha h0 hd
theorem bq_iremo {x : Int32} {d : Nat} (h0 : 0 < d) (hd : d < 2 ^ 31) : bo_iremo x (nI d) = some (bo_irm x (nI d)) := by
  unfold bo_iremo
  rw [if_neg (nI_ne0 h0 hd)]
theorem bq_idivo {x : Int32} {d : Nat} (h0 : 0 < d) (hd : d < 2 ^ 31) : bo_idivo x (nI d) = some (x / nI d) := by
  unfold bo_idivo
  rw [if_neg (nI_ne0 h0 hd)]
/-! sets and counts -/
def sp_set (b : Nat → Bool) : Nat → Nat
  | 0 => 0
  | n + 1 => sp_set b n ||| (if b n then 2 ^ n else 0)
theorem sp_set_lt (b : Nat → Bool) : ∀ n, sp_set b n < 2 ^ n
  | 0 => Nat.one_pos
  | n + 1 => by
    unfold sp_set
    refine Nat.or_lt_two_pow (Nat.lt_of_lt_of_le (sp_set_lt b n) (Nat.pow_le_pow_right (by decide) (Nat.le_succ n))) ?_
    split
    · exact Nat.pow_lt_pow_right (by decide) (Nat.lt_succ_self n)
    · exact Nat.two_pow_pos _
theorem sp_set_bit (b : Nat → Bool) : ∀ n k, (sp_set b n).testBit k = (decide (k < n) && b k)
  | 0, k => by simp [sp_set]
  | n + 1, k => by
    unfold sp_set
    rw [Nat.testBit_or, sp_set_bit b n k]
    by_cases hb : b n
    · rw [if_pos hb, Nat.testBit_two_pow]
      by_cases h : n = k
      · subst h; simp [hb]
      · by_cases h2 : k < n
        · simp [h, h2, Nat.lt_succ_of_lt h2]
        · have : ¬ k < n + 1 := by omega
          simp [h, h2, this]
    · rw [if_neg hb]
      by_cases h : k = n
      · subst h; simp [hb]
      · by_cases h2 : k < n
        · simp [h2, Nat.lt_succ_of_lt h2]
        · have : ¬ k < n + 1 := by omega
          simp [h2, this]
theorem sp_set_cong {b c : Nat → Bool} : ∀ {n : Nat}, (∀ k, k < n → b k = c k) → sp_set b n = sp_set c n
  | 0, _ => rfl
  | n + 1, h => by
    unfold sp_set
    rw [sp_set_cong (fun k hk => h k (Nat.lt_succ_of_lt hk)), h n (Nat.lt_succ_self n)]
theorem sp_set_self {s n : Nat} (h : s < 2 ^ n) : sp_set (fun k => s.testBit k) n = s := by
  apply Nat.eq_of_testBit_eq
  intro k
  rw [sp_set_bit]
  by_cases hk : k < n
  · simp [hk]
  · simp [hk]
    exact Nat.testBit_lt_two_pow (Nat.lt_of_lt_of_le h (Nat.pow_le_pow_right (by decide) (by omega)))
theorem bq_one_shl {k : Nat} (h : k < 31) : (1 : Int32) <<< (nI k &&& 31) = nI (2 ^ k) := by
  have h1 := pk_shlN (n := 1) (nI k &&& 31) k (by
    have : ∀ n, n < 32 → ((nI n &&& 31).toBitVec.smod 32).toNat = n := by decide +kernel
    exact this k (by omega)) (by
    have : 2 ^ k < 2 ^ 32 := Nat.pow_lt_pow_right (by decide) (by omega)
    omega)
  rw [Nat.one_mul] at h1
  exact h1
theorem bq_shr {n k : Nat} (hn : n < 2 ^ 31) (hk : k < 32) : nI n >>> (nI k &&& 31) = nI (n / 2 ^ k) := by
  refine pk_shrN hn _ k ?_
  have : ∀ n, n < 32 → ((nI n &&& 31).toBitVec.smod 32).toNat = n := by decide +kernel
  exact this k hk
theorem bq_bit {n k : Nat} (hn : n < 2 ^ 31) (hk : k < 32) : (nI n >>> (nI k &&& 31)) &&& 1 = nI (if n.testBit k then 1 else 0) := by
  rw [bq_shr hn hk, show (1 : Int32) = nI 1 from rfl, fa_and]
  congr 1
  rw [Nat.and_one_is_mod, ← Nat.shiftRight_eq_div_pow]
  rw [Nat.testBit]
  rw [Nat.and_comm, Nat.and_one_is_mod]
  rcases Nat.mod_two_eq_zero_or_one (n >>> k) with h | h <;> simp [h]
theorem bq_not {a c : Nat} (n : Nat) (hc : c < 2 ^ n) (hn : n < 31) (ha : a < 2 ^ n) : nI a &&& (nI c ^^^ (-1)) = nI (sp_set (fun k => a.testBit k && !c.testBit k) n) := by
  have h1 : (-1 : Int32) = nI (2 ^ 32 - 1) := by decide +kernel
  rw [h1, fb_xorI, fa_and]
  congr 1
  apply Nat.eq_of_testBit_eq
  intro k
  rw [Nat.testBit_and, Nat.testBit_xor, sp_set_bit, Nat.testBit_two_pow_sub_one]
  by_cases hk : k < n
  · have h2 : k < 32 := by omega
    simp [hk, h2]
  · rw [Nat.testBit_lt_two_pow (Nat.lt_of_lt_of_le ha (Nat.pow_le_pow_right (by decide) (by omega)))]
    simp [hk]
/-- how many of 0 .. n-1 -/
def sp_cnt (b : Nat → Bool) : Nat → Nat
  | 0 => 0
  | n + 1 => sp_cnt b n + (if b n then 1 else 0)
theorem sp_cnt_le (b : Nat → Bool) : ∀ n, sp_cnt b n ≤ n
  | 0 => Nat.le_refl 0
  | n + 1 => by
    have := sp_cnt_le b n
    unfold sp_cnt
    split <;> omega
theorem sp_cnt_cong {b c : Nat → Bool} : ∀ {n : Nat}, (∀ k, k < n → b k = c k) → sp_cnt b n = sp_cnt c n
  | 0, _ => rfl
  | n + 1, h => by
    unfold sp_cnt
    rw [sp_cnt_cong (fun k hk => h k (Nat.lt_succ_of_lt hk)), h n (Nat.lt_succ_self n)]
theorem sp_cnt_ext {b : Nat → Bool} {n : Nat} : ∀ {m : Nat}, (∀ k, n ≤ k → b k = false) → n ≤ m → sp_cnt b m = sp_cnt b n
  | 0, _, h => by rw [Nat.le_zero.mp h]
  | m + 1, hb, h => by
    by_cases e : n = m + 1
    · rw [e]
    · show sp_cnt b m + (if b m then 1 else 0) = sp_cnt b n
      rw [hb m (by omega), sp_cnt_ext (m := m) hb (by omega)]
      rfl
theorem bq_pop : ∀ s, s < 128 → mJ6_bitCount_0f7a4 (fun _ _ => 0) (nI s) = some (nI (sp_cnt (fun k => s.testBit k) 7)) := by decide +kernel
theorem bq_popc {σ : bo_M} {s : Nat} (h : s < 128) : mJ6_bitCount_0f7a4 σ (nI s) = some (nI (sp_cnt (fun k => s.testBit k) 7)) := bq_pop s h
theorem bq_popset {σ : bo_M} {b : Nat → Bool} {n : Nat} (hn : n ≤ 7) : mJ6_bitCount_0f7a4 σ (nI (sp_set b n)) = some (nI (sp_cnt b n)) := by
  rw [bq_popc (Nat.lt_of_lt_of_le (sp_set_lt b n) (show 2 ^ n ≤ 2 ^ 7 from Nat.pow_le_pow_right (by decide) hn))]
  congr 2
  rw [sp_cnt_ext (n := n) (fun k hk => by rw [sp_set_bit]; simp; omega) hn]
  exact sp_cnt_cong (fun k hk => by rw [sp_set_bit]; simp [hk])
