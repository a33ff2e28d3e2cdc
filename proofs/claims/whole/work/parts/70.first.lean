/-! the first memory -/
section FIRST
def in_s0 : bo_M := fun a b => if a = 1 ∧ b = 5 then -1 else if a = 135 ∧ b = 20 then -1 else if a = 4 then nI b else if a = 0 ∧ b = 10 then 1 else 0
theorem in_s0_z {a b : Nat} (h : a ≠ 4) (h1 : ¬ (a = 1 ∧ b = 5)) (h2 : ¬ (a = 135 ∧ b = 20)) (h3 : ¬ (a = 0 ∧ b = 10)) : in_s0 a b = 0 := by
  unfold in_s0
  rw [if_neg h1, if_neg h2, if_neg h, if_neg h3]
theorem in_first : in_all in_s0 := by
  have z := @in_s0_z
  refine ⟨0, 0, 0, 0, 0, ⟨?_, ?_, Or.inl ⟨z (by decide) (by decide) (by decide) (by decide), by decide⟩⟩, now_empty (by omega) (fun b _ _ => z (by decide) (by omega) (by omega) (by omega)) (fun b _ => ⟨z (by decide) (by omega) (by omega) (by omega), z (by decide) (by omega) (by omega) (by omega)⟩) (fun j _ => z (by decide) (by omega) (by omega) (by omega)), ⟨0, by omega, by decide, by decide, fun k hk => absurd hk (Nat.not_lt_zero _), by decide⟩, ⟨by decide, by decide⟩, ⟨0, fun i => i, by omega, by decide, by decide, fun i hi => ⟨rfl, hi⟩, fun i j _ _ h => h, fun i hi => absurd hi (Nat.not_lt_zero _)⟩, fun j hj => ?_, ⟨0, by omega, by decide, by decide, fun k hk => absurd hk (Nat.not_lt_zero _)⟩, ⟨0, by omega, by decide, by decide, fun k hk => absurd hk (Nat.not_lt_zero _)⟩⟩
  · exact ⟨⟨by decide, by omega⟩, ⟨by decide, by omega⟩, ⟨by decide, by omega⟩, ⟨by decide, by omega⟩, ⟨0, by decide, by omega, by omega⟩, ⟨0, by decide, by omega, by omega⟩, ⟨0, by decide, by omega, by omega⟩, fun d hd => absurd hd (Nat.not_lt_zero _), fun d hd => absurd hd (Nat.not_lt_zero _), fun d hd => absurd hd (Nat.not_lt_zero _), fun d hd => absurd hd (Nat.not_lt_zero _)⟩
  · rw [show bo_inn (in_s0 0 9) = 34 by decide]
    exact ⟨by decide, by decide, by decide, by decide, by decide, by decide, by decide, fun d hd => absurd hd (Nat.not_lt_zero _), fun d hd => absurd hd (Nat.not_lt_zero _), fun d hd => absurd hd (Nat.not_lt_zero _), fun q hq => by rw [z (by decide) (by omega) (by omega) (by omega)]; rfl⟩
  · have e : in_s0 167 j = 0 := z (by decide) (by omega) (by omega) (by omega)
    rw [e]
    exact ⟨⟨0, rfl, by omega, by omega⟩, by rw [z (by omega) (by omega) (by omega) (by omega)]; rfl, fun h => absurd h (by decide)⟩
end FIRST
