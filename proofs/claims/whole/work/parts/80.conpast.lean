/-! the constructor of Past: an array of sixteen evenings -/
section CONP
def co_evs (i : Nat) : List Nat := (List.range (5 * i)).map (fun j => 55 + j)
theorem co_evs_len (i : Nat) : (co_evs i).length = 5 * i := by unfold co_evs; simp
theorem co_evs_succ (i : Nat) : co_evs (i + 1) = co_evs i ++ co_iE (55 + 5 * i) := by
  unfold co_evs
  rw [show 5 * (i + 1) = 5 * i + 5 by omega, List.range_add, List.map_append]
  congr 1
theorem co_evs_in : ∀ i, i < 17 → ∀ n ∈ co_evs i, 55 ≤ n ∧ n < 55 + 5 * i ∧ ∀ r ∈ co_refs n, 55 ≤ r ∧ r < 55 + 5 * i := by decide +kernel
theorem co_isE {i : Nat} (h : i < 16) : bo_isEv (55 + 5 * i) := Or.inr (Or.inr (Or.inr ⟨i + 1, by omega, by omega⟩))
theorem co_evs_merge {c3 : Nat → ClassId} {D : va_G} {i : Nat} (h : i < 16) (ad ad' : Nat → Nat) : co_W c3 D (co_evs i) ad ++ co_W c3 D (co_iE (55 + 5 * i)) ad' = co_W c3 D (co_evs (i + 1)) (fun n => if n < 55 + 5 * i then ad n else ad' n) := by
  rw [co_evs_succ, co_W_app]
  congr 1
  · exact co_W_congr (fun n hn => (if_pos (co_evs_in i (by omega) n hn).2.1).symm) (fun n hn r hr => (if_pos ((co_evs_in i (by omega) n hn).2.2 r hr).2).symm)
  · exact co_W_congr (fun n hn => (if_neg (by have := co_iE_in hn; omega)).symm) (fun n hn r hr => (if_neg (by have := co_iE_in (co_iE_cl (co_isE h) n hn r hr); omega)).symm)
theorem co_arrV {cA : ClassId} {N : Nat} {f g : Nat → Value} (h : ∀ k, k < N → f k = g k) : arrV cA N f = arrV cA N g := by
  unfold arrV
  have e : (fun j : Fin N => f j.val) = fun j : Fin N => g j.val := funext fun j => h j.val j.isLt
  rw [e]
theorem co_arrq {D : va_G} {o : Nat × va_E} {a n : Nat} {cA : ClassId} {f g : Nat → Option Nat} {V : va_W} {H : Heap} (hfg : ∀ k, k < n → f k = g k) (h : va_P D bo_cl (o :: (a, .inl (cA, n, .inr (.inr (.inr (.inr f))))) :: V) H) : va_P D bo_cl (o :: (a, .inl (cA, n, .inr (.inr (.inr (.inr g))))) :: V) H := by
  intro k q hk
  match k, hk with
  | 0, hk => exact h 0 q hk
  | 1, hk =>
    cases hk
    have h1 : H[a]? = some (vp_cell cA (n, .inr (.inr (.inr (.inr f))))) := h 1 _ rfl
    show H[a]? = some (vp_cell cA (n, .inr (.inr (.inr (.inr g)))))
    rw [h1, vp_cell_q, vp_cell_q, co_arrV (fun k hk => by rw [hfg k hk])]
  | k + 2, hk => exact h (k + 2) q hk
theorem co_lay4 : bo_lay 4 = .inl (2, 16) := by decide +kernel
theorem co_s4 {k : Nat} (h : k < 16) : bo_ev (in_s0 4 k) = 55 + 5 * k := by
  have e : in_s0 4 k = nI k := rfl
  rw [e]
  unfold bo_ev
  rw [nI_clamp (by omega), Nat.mod_eq_of_lt h]
set_option maxRecDepth 100000 in
set_option maxHeartbeats 4000000 in
theorem kIX6 (l : Launch) (c3 : Nat → ClassId) (D : va_G) : co_C l c3 D yX6_init cX6_init 2 2 32 81 1680 6 d0X6 (co_W c3 D (3 :: 4 :: co_evs 16)) 3 := by
  refine co_met (by decide) rfl rfl (Nat.le_of_ble_eq_true rfl) ?_
  intro x h0 e1 e2 e3 hx hin fin
  subst e1; subst e2; subst e3
  refine co_aload (a := h0) hx dkX6_0 rfl 0 rfl ?_
  refine co_super hx dkX6_1 mlX6_3 (by decide) (by decide) ?_
  refine co_aload (a := h0) hx dkX6_4 rfl 0 rfl ?_
  refine co_bipush (v := 16) hx dkX6_5 (by decide) ?_
  refine co_newq (len := 16) hx dkX6_7 clX6_9 (by decide) (by decide) (Nat.le_of_ble_eq_true rfl) (Nat.le_of_ble_eq_true rfl) (Nat.le_of_ble_eq_true rfl) (fun qa => ?_)
  refine co_putF hx hin dkX6_10 in_X6 tyX6 tyX6_ok nmX6 rfl (Nat.le_of_ble_eq_true rfl) fkX6_11 rfl rfl rfl rfl rfl rfl (Nat.le_of_ble_eq_true rfl) ?_
  refine co_iconst (v := 0) hx dkX6_13 (by decide) ?_
  refine co_istore (L' := [(1, .int 0), (0, .ref h0)]) hx dkX6_14 rfl (by decide) rfl ?_
  have loop : ∀ (d i : Nat) (ad : Nat → Nat) (f : Nat → Option Nat), d + i = 16 → (∀ k, k < i → f k = some (ad (55 + 5 * k))) → co_N x 15 [(1, .int (nI i)), (0, .ref h0)] [] ((h0, .inr (6, [.ref qa, .int 0])) :: (qa, .inl (co_c3 x 2, 16, .inr (.inr (.inr (.inr f))))) :: co_W (co_c3 x) (co_G x) (co_evs i) ad) (1 + 5 * i) (16 + 104 * i) := by
    intro d
    induction d with
    | zero =>
      intro i ad f hi hf
      obtain rfl : i = 16 := by omega
      refine co_iload hx dkX6_15 rfl 0 rfl ?_
      refine co_aload (a := h0) hx dkX6_16 rfl 1 rfl ?_
      refine co_get hx dkX6_17 in_X6 rfl (Nat.le_of_ble_eq_true rfl) fkX6_11 rfl rfl ?_
      refine co_alen (v := 16) hx dkX6_20 (by decide) ?_
      refine co_icmp_ge hx 43 dkX6_21 (by decide) (fun _ => ?_) (fun h => absurd (show (16 : Int32) ≤ nI 16 by decide) h)
      refine co_conv (V' := co_W (co_c3 x) (co_G x) (3 :: 4 :: co_evs 16) (fun n => if n = 3 then h0 else if n = 4 then qa else ad n)) ?_ ?_ (fin _ _ (fun n => if n = 3 then h0 else if n = 4 then qa else ad n) _ _ _ dkX6_43 rfl rfl (Nat.le_of_ble_eq_true rfl) (Nat.le_of_ble_eq_true rfl))
      · intro H hP
        have hP' := co_arrq (g := fun k => some ((fun n => if n = 3 then h0 else if n = 4 then qa else ad n) (bo_ev (in_s0 4 k)))) (fun k hk => by
          rw [hf k hk, co_s4 hk]
          show _ = some (if 55 + 5 * k = 3 then h0 else if 55 + 5 * k = 4 then qa else ad (55 + 5 * k))
          rw [if_neg (by omega), if_neg (by omega)]) hP
        have e : co_W (co_c3 x) (co_G x) (co_evs 16) ad = co_W (co_c3 x) (co_G x) (co_evs 16) (fun n => if n = 3 then h0 else if n = 4 then qa else ad n) := co_W_congr (fun n hn => by
          have := co_evs_in 16 (by omega) n hn
          rw [if_neg (by omega), if_neg (by omega)]) (fun n hn r hr => by
          have := (co_evs_in 16 (by omega) n hn).2.2 r hr
          rw [if_neg (by omega), if_neg (by omega)])
        rw [e] at hP'
        have e3 : co_cell (co_c3 x) (co_G x) (fun n => if n = 3 then h0 else if n = 4 then qa else ad n) 3 = (h0, .inr (6, [.ref qa, .int 0])) := by
          rw [co_ob bo_o_3 (by decide)]
          rfl
        have e4 : co_cell (co_c3 x) (co_G x) (fun n => if n = 3 then h0 else if n = 4 then qa else ad n) 4 = (qa, .inl (co_c3 x 2, 16, .inr (.inr (.inr (.inr (fun k => some ((fun n => if n = 3 then h0 else if n = 4 then qa else ad n) (bo_ev (in_s0 4 k))))))))) := by
          unfold co_cell
          rw [co_lay4]
          rfl
        show va_P (co_G x) bo_cl (co_cell _ _ _ 3 :: co_cell _ _ _ 4 :: co_W _ _ (co_evs 16) _) H
        rw [e3, e4]
        exact hP'
      · intro A hD
        have hD' := hD.set (p := 1) (e := .inl (co_c3 x 2, 16, .inr (.inr (.inr (.inr (fun k => some ((fun n => if n = 3 then h0 else if n = 4 then qa else ad n) (bo_ev (in_s0 4 k))))))))) rfl
        have e : co_W (co_c3 x) (co_G x) (co_evs 16) ad = co_W (co_c3 x) (co_G x) (co_evs 16) (fun n => if n = 3 then h0 else if n = 4 then qa else ad n) := co_W_congr (fun n hn => by
          have := co_evs_in 16 (by omega) n hn
          rw [if_neg (by omega), if_neg (by omega)]) (fun n hn r hr => by
          have := (co_evs_in 16 (by omega) n hn).2.2 r hr
          rw [if_neg (by omega), if_neg (by omega)])
        rw [e] at hD'
        have e3 : co_cell (co_c3 x) (co_G x) (fun n => if n = 3 then h0 else if n = 4 then qa else ad n) 3 = (h0, .inr (6, [.ref qa, .int 0])) := by
          rw [co_ob bo_o_3 (by decide)]
          rfl
        have e4 : co_cell (co_c3 x) (co_G x) (fun n => if n = 3 then h0 else if n = 4 then qa else ad n) 4 = (qa, .inl (co_c3 x 2, 16, .inr (.inr (.inr (.inr (fun k => some ((fun n => if n = 3 then h0 else if n = 4 then qa else ad n) (bo_ev (in_s0 4 k))))))))) := by
          unfold co_cell
          rw [co_lay4]
          rfl
        show va_D A (co_cell _ _ _ 3 :: co_cell _ _ _ 4 :: co_W _ _ (co_evs 16) _)
        rw [e3, e4]
        exact hD'
    | succ d ih =>
      intro i ad f hi hf
      have hi16 : i < 16 := by omega
      refine co_iload hx dkX6_15 rfl 0 rfl ?_
      refine co_aload (a := h0) hx dkX6_16 rfl 1 rfl ?_
      refine co_get hx dkX6_17 in_X6 rfl (Nat.le_of_ble_eq_true rfl) fkX6_11 rfl rfl ?_
      refine co_alen (v := 16) hx dkX6_20 (by decide) ?_
      refine co_icmp_ge hx 43 dkX6_21 (by decide) (fun h => absurd h (nI_ge (a := i) (b := 16) hi16 (by omega))) (fun _ => ?_)
      refine co_aload (a := h0) hx dkX6_24 rfl 1 rfl ?_
      refine co_get hx dkX6_25 in_X6 rfl (Nat.le_of_ble_eq_true rfl) fkX6_11 rfl rfl ?_
      refine co_iload hx dkX6_28 rfl 0 rfl ?_
      refine co_make hx dkX6_29 dkX6_32 dkX6_33 in_X2 tyX2 tyX2_ok clX6_9 isX2 iiX2 rfl dfX2 mIX2 (Or.inr mlX6_17) (kIX2 _ _ _ (55 + 5 * i) (co_isE hi16)) (by decide) (Nat.le_of_ble_eq_true rfl) (by omega) (by omega) (fun ad' => ?_)
      show co_N x 36 _ _ ((h0, .inr (6, [.ref qa, .int 0])) :: (qa, .inl (co_c3 x 2, 16, .inr (.inr (.inr (.inr f))))) :: (co_W (co_c3 x) (co_G x) (co_evs i) ad ++ co_W (co_c3 x) (co_G x) (co_iE (55 + 5 * i)) ad')) _ _
      refine co_astq (qk := 5 * i) (vs := bo_fvs ad' (55 + 5 * i) (fun _ => 0) 0 bo_LEv) hx dkX6_36 (nI_in hi16 (by omega)) ?_ ?_
      · rw [List.getElem?_append_right (by rw [co_W_len, co_evs_len]; exact Nat.le_refl _), co_W_len, co_evs_len, Nat.sub_self]
        show some (co_cell _ _ _ (55 + 5 * i)) = _
        rw [co_ob (co_isE hi16).o (co_qE (co_isE hi16) 0 (by decide))]
      · rw [co_evs_merge hi16]
        refine co_iinc (w := nI (i + 1)) (L' := [(1, .int (nI (i + 1))), (0, .ref h0)]) hx dkX6_37 (j := 0) rfl (nI_1 i) (by decide) rfl ?_
        refine co_goto hx 15 dkX6_40 (by decide) ?_
        have hk : 1 + 5 * i + 1 + 4 = 1 + 5 * (i + 1) := by omega
        have hs : 16 + 104 * i + 10 + 94 = 16 + 104 * (i + 1) := by omega
        rw [hk, hs]
        refine ih (i + 1) _ _ (by omega) (fun k hk => ?_)
        rw [nI_clamp (by omega)]
        by_cases hki : k = i
        · subst hki
          rw [va_up_self]
          show _ = some (if 55 + 5 * k < 55 + 5 * k then _ else _)
          rw [if_neg (by omega)]
        · rw [va_up_ne _ _ hki, hf k (by omega)]
          show _ = some (if 55 + 5 * k < 55 + 5 * i then _ else _)
          rw [if_pos (by omega)]
  exact loop 16 0 (fun _ => 0) (fun _ => none) rfl (fun k hk => absurd hk (Nat.not_lt_zero _))
end CONP
