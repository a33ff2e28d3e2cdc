/-! the law from its entry -/
section START
theorem st_nests : ∀ q ∈ bo_nests, Cond.methodLinkNest q.1 q.2.1 q.2.2 "BellRope" ∈ lw_tbl := by
  intro q hq
  simp only [bo_nests, List.mem_cons, List.not_mem_nil, or_false] at hq
  rcases hq with rfl | rfl | rfl | rfl | rfl | rfl | rfl | rfl | rfl | rfl | rfl | rfl
  · exact List.mem_of_getElem? (i := 490) (by decide +kernel)
  · exact List.mem_of_getElem? (i := 86) (by decide +kernel)
  · exact List.mem_of_getElem? (i := 114) (by decide +kernel)
  · exact List.mem_of_getElem? (i := 166) (by decide +kernel)
  · exact List.mem_of_getElem? (i := 177) (by decide +kernel)
  · exact List.mem_of_getElem? (i := 182) (by decide +kernel)
  · exact List.mem_of_getElem? (i := 196) (by decide +kernel)
  · exact List.mem_of_getElem? (i := 201) (by decide +kernel)
  · exact List.mem_of_getElem? (i := 213) (by decide +kernel)
  · exact List.mem_of_getElem? (i := 240) (by decide +kernel)
  · exact List.mem_of_getElem? (i := 257) (by decide +kernel)
  · exact List.mem_of_getElem? (i := 267) (by decide +kernel)
theorem st_AO : Cond.arrayOver (.object "BellRope$Evening") ∈ lw_tbl := List.mem_of_getElem? (i := 165) (by decide +kernel)
theorem clL_7 : Cond.classLink "BellRopeLaw" 7 RX10 ∈ bo_tb := bo_mem 76 (by decide +kernel) (by decide +kernel)
theorem mlL_9 : Cond.methodLink "BellRopeLaw" 9 yX10_init ∈ bo_tb := bo_mem 78 (by decide +kernel) (by decide +kernel)
theorem clL_10 : Cond.classLink "BellRopeLaw" 10 RX11 ∈ bo_tb := bo_mem 875 (by decide +kernel) (by decide +kernel)
theorem mlL_12 : Cond.methodLink "BellRopeLaw" 12 yX11_init ∈ bo_tb := bo_mem 877 (by decide +kernel) (by decide +kernel)
theorem dL_0 : decode cL 0 = .ok (.new 7, 3) := by decide +kernel
theorem dL_3 : decode cL 3 = .ok (.dup, 1) := by decide +kernel
theorem dL_4 : decode cL 4 = .ok (.invokespecial 9, 3) := by decide +kernel
theorem dL_7 : decode cL 7 = .ok (.astore_n 1, 1) := by decide +kernel
theorem dL_8 : decode cL 8 = .ok (.new 10, 3) := by decide +kernel
theorem dL_11 : decode cL 11 = .ok (.dup, 1) := by decide +kernel
theorem dL_12 : decode cL 12 = .ok (.invokespecial 12, 3) := by decide +kernel
theorem dL_15 : decode cL 15 = .ok (.astore_n 2, 1) := by decide +kernel
theorem dL_16 : decode cL 16 = .ok (.iconst 0, 1) := by decide +kernel
theorem dL_17 : decode cL 17 = .ok (.istore_n 3, 1) := by decide +kernel
theorem dL_1186 : decode cL 1186 = .ok (.ireturn, 1) := by decide +kernel
/-- the classes and the arrays as the tables have them -/
theorem st_known {args : Array Value} {s : State} (hts : ∀ w ∈ lw_tbl, w.before args s = true) : ∃ (c3 : Nat → ClassId) (D : va_G), va_K D bo_cl (bo_tys c3) s ∧ co_NW s := by
  have htb : ∀ w ∈ bo_tb, w.before args s = true := fun w hw => hts w (bo_tb_in hw)
  have hcl : ∀ k : Nat, ∃ (cC : ClassId) (iS : Nat → Nat), ∀ q : vw_C, bo_cl[k]? = some q → u_Kn s q.1 q.2.1 q.2.2 cC iS := by
    intro k
    obtain ⟨z1, z2, z⟩ := u_known htb in_X0 (htb _ isX0)
    match k with
    | 0 =>
      obtain ⟨c, i, h⟩ := u_known htb in_X0 (htb _ isX0)
      exact ⟨c, i, fun q hq => by cases hq; exact h⟩
    | 1 =>
      obtain ⟨c, i, h⟩ := u_known htb in_X1 (htb _ isX1)
      exact ⟨c, i, fun q hq => by cases hq; exact h⟩
    | 2 =>
      obtain ⟨c, i, h⟩ := u_known htb in_X2 (htb _ isX2)
      exact ⟨c, i, fun q hq => by cases hq; exact h⟩
    | 3 =>
      obtain ⟨c, i, h⟩ := u_known htb in_X3 (htb _ isX3)
      exact ⟨c, i, fun q hq => by cases hq; exact h⟩
    | 4 =>
      obtain ⟨c, i, h⟩ := u_known htb in_X4 (htb _ isX4)
      exact ⟨c, i, fun q hq => by cases hq; exact h⟩
    | 5 =>
      obtain ⟨c, i, h⟩ := u_known htb in_X5 (htb _ isX5)
      exact ⟨c, i, fun q hq => by cases hq; exact h⟩
    | 6 =>
      obtain ⟨c, i, h⟩ := u_known htb in_X6 (htb _ isX6)
      exact ⟨c, i, fun q hq => by cases hq; exact h⟩
    | 7 =>
      obtain ⟨c, i, h⟩ := u_known htb in_X7 (htb _ isX7)
      exact ⟨c, i, fun q hq => by cases hq; exact h⟩
    | 8 =>
      obtain ⟨c, i, h⟩ := u_known htb in_X9 (htb _ isX9)
      exact ⟨c, i, fun q hq => by cases hq; exact h⟩
    | 9 =>
      obtain ⟨c, i, h⟩ := u_known htb in_X10 (htb _ isX10)
      exact ⟨c, i, fun q hq => by cases hq; exact h⟩
    | 10 =>
      obtain ⟨c, i, h⟩ := u_known htb in_X11 (htb _ isX11)
      exact ⟨c, i, fun q hq => by cases hq; exact h⟩
    | k + 11 => exact ⟨z1, z2, fun q hq => by simp [bo_cl] at hq⟩
  obtain ⟨a0, k0, p0, h01, h02, h03⟩ := Cond.arrayClass_spec (htb _ co_obj.2.2)
  obtain ⟨a1, k1, p1, h11, h12, h13⟩ := Cond.arrayClass_spec (htb _ co_bool)
  obtain ⟨p2, a2, k2, h20, h21, h22, h23, h24⟩ := Cond.arrayOver_spec (hts _ st_AO)
  refine ⟨fun k => if k = 0 then a0 else if k = 1 then a1 else a2, (fun k => Classical.choose (hcl k), fun k => Classical.choose (Classical.choose_spec (hcl k))), ⟨fun c q hq => Classical.choose_spec (Classical.choose_spec (hcl c)) q hq, fun k q hq => ?_⟩, fun q hq => va_Nw.of rfl (hts _ (st_nests q hq)), va_AO.of (hts _ st_AO)⟩
  match k, hq with
  | 0, hq =>
    cases hq
    exact ⟨fun n z => ⟨(fun k h => by cases h), k0, h02, p0, h03⟩, h01⟩
  | 1, hq =>
    cases hq
    exact ⟨fun n z => ⟨(fun k h => by cases h), k1, h12, p1, h13⟩, h11⟩
  | 2, hq =>
    cases hq
    exact ⟨fun n z => ⟨(fun k h => by cases h), k2, h22, p2, h23⟩, k2, p2, h22, h23, h20, h24⟩
  | k + 3, hq => simp [bo_tys] at hq
/-! the two blocks are the world of the first memory -/
def st_all : List Nat := (0 :: co_topI) ++ co_modI
theorem st_has : ∀ n, n < 168 → n ∈ st_all := by decide +kernel
theorem st_t : ∀ n ∈ 0 :: co_topI, n < 135 ∧ ∀ r ∈ co_refs n, r ∈ 0 :: co_topI := by decide +kernel
theorem st_m : ∀ n ∈ co_modI, 135 ≤ n ∧ ∀ r ∈ co_refs n, r ∈ co_modI := by decide +kernel
theorem st_join {c3 : Nat → ClassId} {D : va_G} (a b : Nat → Nat) : co_W c3 D (0 :: co_topI) a ++ co_W c3 D co_modI b = co_W c3 D st_all (fun n => if n < 135 then a n else b n) := by
  unfold st_all
  rw [co_W_app, co_W_cl (fun n hn => (st_t n hn).2) (fun n hn => (if_pos (st_t n hn).1).symm), co_W_cl (ids := co_modI) (fun n hn => (st_m n hn).2) (fun n hn => (if_neg (Nat.not_lt.mpr (st_m n hn).1)).symm)]
theorem st_P {c3 : Nat → ClassId} {D : va_G} {ad : Nat → Nat} {H : Heap} (h : va_P D bo_cl (co_W c3 D st_all ad) H) : va_P D bo_cl (bo_ws (c3, D, ad) in_s0) H := by
  intro k q hk
  have hl : k < 168 := by
    have := (List.getElem?_eq_some_iff.mp hk).1
    rwa [bo_ws_len] at this
  rw [bo_ws_get hl] at hk
  have hm : q ∈ co_W c3 D st_all ad := List.mem_map.mpr ⟨k, st_has k hl, Option.some.inj hk⟩
  obtain ⟨j, hj⟩ := List.getElem?_of_mem hm
  exact h j q hj
theorem st_at {c3 : Nat → ClassId} {D : va_G} {ad : Nat → Nat} {n : Nat} (hn : n < 168) : ∃ j : Nat, st_all[j]? = some n ∧ (co_W c3 D st_all ad)[j]? = some (co_cell c3 D ad n) := by
  obtain ⟨j, hj⟩ := List.getElem?_of_mem (st_has n hn)
  exact ⟨j, hj, by unfold co_W; rw [List.getElem?_map, hj]; rfl⟩
theorem st_inj {c3 : Nat → ClassId} {D : va_G} {ad : Nat → Nat} {A : Nat → Prop} (h : va_D A (co_W c3 D st_all ad)) : bo_inj (c3, D, ad) := by
  intro i j hi hj e
  obtain ⟨a, a1, a2⟩ := st_at (c3 := c3) (D := D) (ad := ad) hi
  obtain ⟨b, b1, b2⟩ := st_at (c3 := c3) (D := D) (ad := ad) hj
  have hab := h.1 a b _ _ a2 b2 e
  subst hab
  exact Option.some.inj (a1.symm.trans b1)
theorem st_A {c3 : Nat → ClassId} {D : va_G} {ad : Nat → Nat} {A : Nat → Prop} (h : va_D A (co_W c3 D st_all ad)) (n : Nat) (hn : n < 168) : A (ad n) := by
  obtain ⟨a, a1, a2⟩ := st_at (c3 := c3) (D := D) (ad := ad) hn
  exact h.2 a _ a2
end START
