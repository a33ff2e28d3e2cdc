/-! constructors -/
section CON
def co_A0 (len : Nat) : vp_A := (len, .inl (fun _ => 0))
theorem co_a0 (len : Nat) (cA : ClassId) : vp_cell cA (co_A0 len) = arrV cA len (fun _ => defaultValue .int) := rfl
theorem co_obj : Cond.instanceMethod objectInit ∈ bo_tb ∧ Cond.code objectInit ⟨#[0xb1]⟩ 1 none ∈ bo_tb ∧ Cond.arrayClass .int ∈ bo_tb := ⟨bo_mem 82 (by decide +kernel) (by decide +kernel), bo_mem 83 (by decide +kernel) (by decide +kernel), bo_mem 111 (by decide +kernel) (by decide +kernel)⟩
theorem co_one {D : va_G} {tys : List (ClassId × FieldType)} {s : State} (hK : va_K D bo_cl tys s) {i j : Nat} {a b : ClassId} (h1 : tys[i]? = some (a, .int)) (h2 : tys[j]? = some (b, .int)) : a = b := by
  have e1 := (hK.2 i _ h1).2
  have e2 := (hK.2 j _ h2).2
  exact Option.some.inj (e1.symm.trans e2)
theorem oX2 : Cond.methodLink RX2 3 objectInit ∈ bo_tb := bo_mem 117 (by decide +kernel) (by decide +kernel)
end CON
