/-! constructors that make int arrays alone: printed by wip/whole/gen/con.py -/
section CON1
theorem bo_tbm {w : Cond} (h : w ∈ bo_tb) : w ∈ bo_tb := h
abbrev d0X2 : List Value := [.null, .null, .null, .null, .int 0, .int 0, .int 0, .int 0, .int 0, .int 0]
theorem obX2 : Cond.methodLink RX2 3 objectInit ∈ bo_tb := bo_mem 117 (by decide +kernel) (by decide +kernel)
theorem fkX2_9 : Cond.fieldLink RX2 9 RX2 (TX2 0).2.1 (TX2 0).2.2.1 ∈ bo_tb := bo_mem 118 (by decide +kernel) (by decide +kernel)
theorem fkX2_15 : Cond.fieldLink RX2 15 RX2 (TX2 1).2.1 (TX2 1).2.2.1 ∈ bo_tb := bo_mem 121 (by decide +kernel) (by decide +kernel)
theorem fkX2_18 : Cond.fieldLink RX2 18 RX2 (TX2 2).2.1 (TX2 2).2.2.1 ∈ bo_tb := bo_mem 123 (by decide +kernel) (by decide +kernel)
theorem fkX2_21 : Cond.fieldLink RX2 21 RX2 (TX2 3).2.1 (TX2 3).2.2.1 ∈ bo_tb := bo_mem 124 (by decide +kernel) (by decide +kernel)
theorem dkX2_0 : decode cX2_init 0 = .ok (.aload_n 0, 1) := by decide +kernel
theorem dkX2_1 : decode cX2_init 1 = .ok (.invokespecial 3, 3) := by decide +kernel
theorem dkX2_4 : decode cX2_init 4 = .ok (.aload_n 0, 1) := by decide +kernel
theorem dkX2_5 : decode cX2_init 5 = .ok (.bipush 7, 2) := by decide +kernel
theorem dkX2_7 : decode cX2_init 7 = .ok (.newarray .int, 2) := by decide +kernel
theorem dkX2_9 : decode cX2_init 9 = .ok (.putfield 9, 3) := by decide +kernel
theorem dkX2_12 : decode cX2_init 12 = .ok (.aload_n 0, 1) := by decide +kernel
theorem dkX2_13 : decode cX2_init 13 = .ok (.bipush 7, 2) := by decide +kernel
theorem dkX2_15 : decode cX2_init 15 = .ok (.newarray .int, 2) := by decide +kernel
theorem dkX2_17 : decode cX2_init 17 = .ok (.putfield 15, 3) := by decide +kernel
theorem dkX2_20 : decode cX2_init 20 = .ok (.aload_n 0, 1) := by decide +kernel
theorem dkX2_21 : decode cX2_init 21 = .ok (.bipush 40, 2) := by decide +kernel
theorem dkX2_23 : decode cX2_init 23 = .ok (.newarray .int, 2) := by decide +kernel
theorem dkX2_25 : decode cX2_init 25 = .ok (.putfield 18, 3) := by decide +kernel
theorem dkX2_28 : decode cX2_init 28 = .ok (.aload_n 0, 1) := by decide +kernel
theorem dkX2_29 : decode cX2_init 29 = .ok (.bipush 40, 2) := by decide +kernel
theorem dkX2_31 : decode cX2_init 31 = .ok (.newarray .int, 2) := by decide +kernel
theorem dkX2_33 : decode cX2_init 33 = .ok (.putfield 21, 3) := by decide +kernel
theorem dkX2_36 : decode cX2_init 36 = .ok (.return_, 1) := by decide +kernel
abbrev bkX2 (cI : ClassId) (ad : Nat → Nat) : va_W := [((ad 0), .inr (2, [.ref (ad 1), .ref (ad 2), .ref (ad 3), .ref (ad 4), .int 0, .int 0, .int 0, .int 0, .int 0, .int 0])), ((ad 1), .inl (cI, co_A0 7)), ((ad 2), .inl (cI, co_A0 7)), ((ad 3), .inl (cI, co_A0 40)), ((ad 4), .inl (cI, co_A0 40))]
set_option maxHeartbeats 4000000 in
set_option maxRecDepth 100000 in
theorem knX2 (l : Launch) (D : va_G) (h0 sz : Nat) : Met l yX2_init (.code yX2_init cX2_init 1 none :: bo_tb) ({ frames := 1, cells := 4, slots := 94, locals := 12 }) (va_Pc [.ref h0] (fun U => U.heap.size = sz ∧ va_P D bo_cl [(h0, .inr (2, d0X2))] U.heap ∧ va_K D bo_cl [] U ∧ va_D (fun _ => True) [(h0, .inr (2, d0X2))])) (va_Qv (fun ad : Nat → Nat => ad 0 = h0) (fun ad t => ∃ cI : ClassId, va_P D bo_cl (bkX2 cI ad) t.heap ∧ va_K D bo_cl [(cI, .int)] t ∧ va_D (va_A [(h0, .inr (2, d0X2))] sz) (bkX2 cI ad)) (va_A [(h0, .inr (2, d0X2))] sz)) 4 94 (va_A [(h0, .inr (2, d0X2))] sz) := by
  refine Met.ofW (cc := cX2_init) (maxL := 1) (ret := none) (by decide) rfl ?_
  intro p e s m args below meth c s₁ B hml hv
  obtain ⟨rfl, hsz, hP, hK, hD0⟩ := hv
  have hx := B.exec
  have hb := B.bytes
  have hr := B.returns
  have hts0 := atoms_spec (ws := .code yX2_init cX2_init 1 none :: bo_tb) B.pre
  have hts : ∀ w ∈ bo_tb, w.before #[Value.ref h0] s = true := fun w hw => hts0 w (List.mem_cons_of_mem _ hw)
  have hown : s.vm.findClass RX2 = some m.cls := findClass_of_methodNamed B.named
  have hin : meth.name = "<init>" := (name_of_methodNamed B.named B.method).1
  subst hsz
  have hD := hD0.self (sz := s.heap.size)
  generalize hAe : va_A [(h0, .inr (2, d0X2))] s.heap.size = A at hD ⊢
  have hA : ∀ q : Nat, s.heap.size ≤ q → A q := fun q h => by rw [← hAe]; exact Or.inr h
  have hS : va_S A s.heap s.heap [] := va_S.rf
  have hP : va_P D bo_cl [(h0, .inr (2, d0X2))] s.heap := hP
  have hl := lv_entry ([.ref h0]) (n := 1) (Nat.le_of_ble_eq_true rfl)
  rw [lg_entry_eq]
  generalize (lg_sl ([.ref h0]) ++ List.replicate (1 - (lg_sl ([.ref h0])).length) Slot.unset).toArray = ls at hl ⊢
  have hl : lv_has ls 1 [(0, .ref h0)] := hl
  refine lv_aload_n hx hb dkX2_0 rfl (lv_at hl 0 rfl) ?_
  refine W.objInit hx hb hown (hts (.methodLink RX2 3 objectInit) (bo_tbm obX2)) (hts (.instanceMethod objectInit) (bo_tbm co_obj.1)) (hts _ (bo_tbm co_obj.2.1)) rfl (by rw [hml]; exact hl.1) rfl dkX2_1 (Nat.le_of_ble_eq_true rfl) (Nat.le_of_ble_eq_true rfl) ?_
  refine W.eq (g2 := F0 m 4 ls []) rfl ?_
  refine lv_aload_n hx hb dkX2_4 rfl (lv_at hl 0 rfl) ?_
  refine lv_bipush (v := 7) hx hb dkX2_5 (by decide) ?_
  refine va_newa (atype := .int) (ty := .int) (a0 := co_A0 7) hx hb (hts (.arrayClass .int) (bo_tbm co_obj.2.2)) rfl hK hP hD hS hA (fun _ => rfl) (by decide) (by decide) (Nat.le_of_ble_eq_true rfl) (Nat.le_of_ble_eq_true rfl) (Nat.le_of_ble_eq_true rfl) dkX2_7 (fun q1 a1 H hK hP hD hS => ?_)
  have hP : va_P D bo_cl [(h0, .inr (2, d0X2)), (q1, .inl (a1, co_A0 7))] H := hP
  have hD : va_D A [(h0, .inr (2, d0X2)), (q1, .inl (a1, co_A0 7))] := hD
  have hK : va_K D bo_cl [(a1, .int)] s := hK
  refine va_putF (D := D) (ci := 2) (v := .ref q1) (ty := .array .int) (C := RX2) (T := TX2) (N := 10) hx hb hts (fun w hw => bo_tbm (in_X2 w hw)) tyX2 tyX2_ok nmX2 hown hK hP hD hS 0 rfl rfl 0 (by decide) (hts _ (bo_tbm fkX2_9)) (fun _ h9 => h9) rfl hin rfl (by decide +kernel) rfl rfl (Nat.le_of_ble_eq_true rfl) dkX2_9 (fun H locs hP hD hS => ?_)
  have hP : va_P D bo_cl [(h0, .inr (2, [.ref q1, .null, .null, .null, .int 0, .int 0, .int 0, .int 0, .int 0, .int 0])), (q1, .inl (a1, co_A0 7))] H := hP
  have hD : va_D A [(h0, .inr (2, [.ref q1, .null, .null, .null, .int 0, .int 0, .int 0, .int 0, .int 0, .int 0])), (q1, .inl (a1, co_A0 7))] := hD
  refine lv_aload_n hx hb dkX2_12 rfl (lv_at hl 0 rfl) ?_
  refine lv_bipush (v := 7) hx hb dkX2_13 (by decide) ?_
  refine va_newa (atype := .int) (ty := .int) (a0 := co_A0 7) hx hb (hts (.arrayClass .int) (bo_tbm co_obj.2.2)) rfl hK hP hD hS hA (fun _ => rfl) (by decide) (by decide) (Nat.le_of_ble_eq_true rfl) (Nat.le_of_ble_eq_true rfl) (Nat.le_of_ble_eq_true rfl) dkX2_15 (fun q2 a2 H hK hP hD hS => ?_)
  have hP : va_P D bo_cl [(h0, .inr (2, [.ref q1, .null, .null, .null, .int 0, .int 0, .int 0, .int 0, .int 0, .int 0])), (q1, .inl (a1, co_A0 7)), (q2, .inl (a2, co_A0 7))] H := hP
  have hD : va_D A [(h0, .inr (2, [.ref q1, .null, .null, .null, .int 0, .int 0, .int 0, .int 0, .int 0, .int 0])), (q1, .inl (a1, co_A0 7)), (q2, .inl (a2, co_A0 7))] := hD
  have hK : va_K D bo_cl [(a1, .int), (a2, .int)] s := hK
  refine va_putF (D := D) (ci := 2) (v := .ref q2) (ty := .array .int) (C := RX2) (T := TX2) (N := 10) hx hb hts (fun w hw => bo_tbm (in_X2 w hw)) tyX2 tyX2_ok nmX2 hown hK hP hD hS 0 rfl rfl 1 (by decide) (hts _ (bo_tbm fkX2_15)) (fun _ h9 => h9) rfl hin rfl (by decide +kernel) rfl rfl (Nat.le_of_ble_eq_true rfl) dkX2_17 (fun H locs hP hD hS => ?_)
  have hP : va_P D bo_cl [(h0, .inr (2, [.ref q1, .ref q2, .null, .null, .int 0, .int 0, .int 0, .int 0, .int 0, .int 0])), (q1, .inl (a1, co_A0 7)), (q2, .inl (a2, co_A0 7))] H := hP
  have hD : va_D A [(h0, .inr (2, [.ref q1, .ref q2, .null, .null, .int 0, .int 0, .int 0, .int 0, .int 0, .int 0])), (q1, .inl (a1, co_A0 7)), (q2, .inl (a2, co_A0 7))] := hD
  refine lv_aload_n hx hb dkX2_20 rfl (lv_at hl 0 rfl) ?_
  refine lv_bipush (v := 40) hx hb dkX2_21 (by decide) ?_
  refine va_newa (atype := .int) (ty := .int) (a0 := co_A0 40) hx hb (hts (.arrayClass .int) (bo_tbm co_obj.2.2)) rfl hK hP hD hS hA (fun _ => rfl) (by decide) (by decide) (Nat.le_of_ble_eq_true rfl) (Nat.le_of_ble_eq_true rfl) (Nat.le_of_ble_eq_true rfl) dkX2_23 (fun q3 a3 H hK hP hD hS => ?_)
  have hP : va_P D bo_cl [(h0, .inr (2, [.ref q1, .ref q2, .null, .null, .int 0, .int 0, .int 0, .int 0, .int 0, .int 0])), (q1, .inl (a1, co_A0 7)), (q2, .inl (a2, co_A0 7)), (q3, .inl (a3, co_A0 40))] H := hP
  have hD : va_D A [(h0, .inr (2, [.ref q1, .ref q2, .null, .null, .int 0, .int 0, .int 0, .int 0, .int 0, .int 0])), (q1, .inl (a1, co_A0 7)), (q2, .inl (a2, co_A0 7)), (q3, .inl (a3, co_A0 40))] := hD
  have hK : va_K D bo_cl [(a1, .int), (a2, .int), (a3, .int)] s := hK
  refine va_putF (D := D) (ci := 2) (v := .ref q3) (ty := .array .int) (C := RX2) (T := TX2) (N := 10) hx hb hts (fun w hw => bo_tbm (in_X2 w hw)) tyX2 tyX2_ok nmX2 hown hK hP hD hS 0 rfl rfl 2 (by decide) (hts _ (bo_tbm fkX2_18)) (fun _ h9 => h9) rfl hin rfl (by decide +kernel) rfl rfl (Nat.le_of_ble_eq_true rfl) dkX2_25 (fun H locs hP hD hS => ?_)
  have hP : va_P D bo_cl [(h0, .inr (2, [.ref q1, .ref q2, .ref q3, .null, .int 0, .int 0, .int 0, .int 0, .int 0, .int 0])), (q1, .inl (a1, co_A0 7)), (q2, .inl (a2, co_A0 7)), (q3, .inl (a3, co_A0 40))] H := hP
  have hD : va_D A [(h0, .inr (2, [.ref q1, .ref q2, .ref q3, .null, .int 0, .int 0, .int 0, .int 0, .int 0, .int 0])), (q1, .inl (a1, co_A0 7)), (q2, .inl (a2, co_A0 7)), (q3, .inl (a3, co_A0 40))] := hD
  refine lv_aload_n hx hb dkX2_28 rfl (lv_at hl 0 rfl) ?_
  refine lv_bipush (v := 40) hx hb dkX2_29 (by decide) ?_
  refine va_newa (atype := .int) (ty := .int) (a0 := co_A0 40) hx hb (hts (.arrayClass .int) (bo_tbm co_obj.2.2)) rfl hK hP hD hS hA (fun _ => rfl) (by decide) (by decide) (Nat.le_of_ble_eq_true rfl) (Nat.le_of_ble_eq_true rfl) (Nat.le_of_ble_eq_true rfl) dkX2_31 (fun q4 a4 H hK hP hD hS => ?_)
  have hP : va_P D bo_cl [(h0, .inr (2, [.ref q1, .ref q2, .ref q3, .null, .int 0, .int 0, .int 0, .int 0, .int 0, .int 0])), (q1, .inl (a1, co_A0 7)), (q2, .inl (a2, co_A0 7)), (q3, .inl (a3, co_A0 40)), (q4, .inl (a4, co_A0 40))] H := hP
  have hD : va_D A [(h0, .inr (2, [.ref q1, .ref q2, .ref q3, .null, .int 0, .int 0, .int 0, .int 0, .int 0, .int 0])), (q1, .inl (a1, co_A0 7)), (q2, .inl (a2, co_A0 7)), (q3, .inl (a3, co_A0 40)), (q4, .inl (a4, co_A0 40))] := hD
  have hK : va_K D bo_cl [(a1, .int), (a2, .int), (a3, .int), (a4, .int)] s := hK
  refine va_putF (D := D) (ci := 2) (v := .ref q4) (ty := .array .int) (C := RX2) (T := TX2) (N := 10) hx hb hts (fun w hw => bo_tbm (in_X2 w hw)) tyX2 tyX2_ok nmX2 hown hK hP hD hS 0 rfl rfl 3 (by decide) (hts _ (bo_tbm fkX2_21)) (fun _ h9 => h9) rfl hin rfl (by decide +kernel) rfl rfl (Nat.le_of_ble_eq_true rfl) dkX2_33 (fun H locs hP hD hS => ?_)
  have hP : va_P D bo_cl [(h0, .inr (2, [.ref q1, .ref q2, .ref q3, .ref q4, .int 0, .int 0, .int 0, .int 0, .int 0, .int 0])), (q1, .inl (a1, co_A0 7)), (q2, .inl (a2, co_A0 7)), (q3, .inl (a3, co_A0 40)), (q4, .inl (a4, co_A0 40))] H := hP
  have hD : va_D A [(h0, .inr (2, [.ref q1, .ref q2, .ref q3, .ref q4, .int 0, .int 0, .int 0, .int 0, .int 0, .int 0])), (q1, .inl (a1, co_A0 7)), (q2, .inl (a2, co_A0 7)), (q3, .inl (a3, co_A0 40)), (q4, .inl (a4, co_A0 40))] := hD
  have e2 : a2 = a1 := co_one hK (i := 1) (j := 0) rfl rfl
  subst e2
  have e3 : a3 = a1 := co_one hK (i := 2) (j := 0) rfl rfl
  subst e3
  have e4 : a4 = a1 := co_one hK (i := 3) (j := 0) rfl rfl
  subst e4
  have hK9 := hK.sub (tys' := [(a1, .int)]) [0] rfl
  exact W.vret hx hb hr (fun t ht hW => ⟨⟨(fun k => if k = 0 then h0 else if k = 1 then q1 else if k = 2 then q2 else if k = 3 then q3 else q4), rfl, rfl, a1, by rw [ht]; exact hP, va_K.moved hW.alike hK9, hD⟩, hS.F ht⟩) hS.2.2 dkX2_36
end CON1
