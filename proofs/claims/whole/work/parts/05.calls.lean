/-! contracts and calls -/
abbrev bo_rm (fr lo : Nat) : Room := { frames := fr, cells := 0, slots := 0, locals := lo }
/-- the continuations at a method's end: an int (z: 0 or 1 alone), an int and a memory, a memory, an object or null -/
def bo_Ri (x : bo_X) (cc : ByteArray) (σ : bo_M) (z : Bool) (r : Int32) : Prop := (z = true → bo_B r) → ∀ (pc : Nat) (L : List (Nat × Value)), decode cc pc = .ok (.ireturn, 1) → bo_N x pc L [.int r] σ
def bo_Rw (x : bo_X) (cc : ByteArray) (z : Bool) (r : Int32 × bo_M) : Prop := (z = true → bo_B r.1) → ∀ (pc : Nat) (L : List (Nat × Value)), decode cc pc = .ok (.ireturn, 1) → bo_N x pc L [.int r.1] r.2
def bo_Rv (x : bo_X) (cc : ByteArray) (σ : bo_M) : Prop := ∀ (pc : Nat) (L : List (Nat × Value)), decode cc pc = .ok (.return_, 1) → bo_N x pc L [] σ
def bo_qv (g : bo_G) (h : Int32 → Nat) (r : Option Int32) : Value := va_rf (r.map fun c => g.2.2 (h c))
def bo_Rq (x : bo_X) (cc : ByteArray) (σ : bo_M) (h : Int32 → Nat) (r : Option Int32) : Prop := ∀ (pc : Nat) (L : List (Nat × Value)), decode cc pc = .ok (.areturn, 1) → bo_N x pc L [bo_qv (bo_g x) h r] σ
def bo_zr (v : Int32) : Option Int32 := if v = 0 ∨ v = 1 then some v else none
section BO3
variable {x : bo_X} {cc : ByteArray} {own : String} {nL fr lo : Nat} {pc : Nat} {L : List (Nat × Value)} {S S0 : List Value} {σ : bo_M} {α β : Type} {M M1 M2 : Option α} {k : α → Prop} {z : Bool}
theorem bo_ret {v : Int32} (hd : decode cc pc = .ok (.ireturn, 1)) (hz : z = true → bo_B v) : bo_D x pc L [.int v] σ (some v) (bo_Ri x cc σ z) := fun _ h1 h2 => by cases h1; exact h2 hz pc L hd
theorem bo_retw {v : Int32} (hd : decode cc pc = .ok (.ireturn, 1)) (hz : z = true → bo_B v) : bo_D x pc L [.int v] σ (some (v, σ)) (bo_Rw x cc z) := fun _ h1 h2 => by cases h1; exact h2 hz pc L hd
theorem bo_retz {v : Int32} (hd : decode cc pc = .ok (.ireturn, 1)) : bo_D x pc L [.int v] σ (bo_zr v) (bo_Ri x cc σ z) := by
  intro r h1 h2
  unfold bo_zr at h1
  by_cases h : v = 0 ∨ v = 1
  · rw [if_pos h] at h1
    cases h1
    exact h2 (fun _ => h) pc L hd
  · rw [if_neg h] at h1; cases h1
theorem bo_retv (hd : decode cc pc = .ok (.return_, 1)) : bo_D x pc L [] σ (some σ) (bo_Rv x cc) := fun _ h1 h2 => by cases h1; exact h2 pc L hd
theorem bo_retq {h : Int32 → Nat} {r : Option Int32} {v : Value} (hd : decode cc pc = .ok (.areturn, 1)) (hv : v = bo_qv (bo_g x) h r) : bo_D x pc L [v] σ (some r) (bo_Rq x cc σ h) := fun _ h1 h2 => by cases h1; rw [hv]; exact h2 pc L hd
end BO3
section BO4
variable {l : Launch} {g : bo_G} {y : MethodName} {cc : ByteArray} {nL fr lo : Nat} {ret : Option FieldType} {As : List Value} {σ : bo_M} {own : String} {z : Bool}
def bo_CR (l : Launch) (g : bo_G) (y : MethodName) (cc : ByteArray) (nL : Nat) (ret : Option FieldType) (fr lo : Nat) (As : List Value) (σ : bo_M) (z : Bool) (m : Option Int32) : Prop := ∀ r0, m = some r0 →
  Met l y (.code y cc nL ret :: bo_tb) (bo_rm fr lo) (va_Pc As (bo_Pre g σ)) (va_Qi (fun (r : Int32) (σ' : bo_M) => r = r0 ∧ σ' = σ ∧ (z = true → bo_B r)) (fun σ' t => bo_Pre g σ' t) (bo_A g)) 0 0 (bo_A g)
def bo_CW (l : Launch) (g : bo_G) (y : MethodName) (cc : ByteArray) (nL : Nat) (ret : Option FieldType) (fr lo : Nat) (As : List Value) (σ : bo_M) (z : Bool) (m : Option (Int32 × bo_M)) : Prop := ∀ r0, m = some r0 →
  Met l y (.code y cc nL ret :: bo_tb) (bo_rm fr lo) (va_Pc As (bo_Pre g σ)) (va_Qi (fun (r : Int32) (σ' : bo_M) => r = r0.1 ∧ σ' = r0.2 ∧ (z = true → bo_B r)) (fun σ' t => bo_Pre g σ' t) (bo_A g)) 0 0 (bo_A g)
def bo_CV (l : Launch) (g : bo_G) (y : MethodName) (cc : ByteArray) (nL : Nat) (ret : Option FieldType) (fr lo : Nat) (As : List Value) (σ : bo_M) (m : Option bo_M) : Prop := ∀ r0, m = some r0 →
  Met l y (.code y cc nL ret :: bo_tb) (bo_rm fr lo) (va_Pc As (bo_Pre g σ)) (va_Qv (fun (σ' : bo_M) => σ' = r0) (fun σ' t => bo_Pre g σ' t) (bo_A g)) 0 0 (bo_A g)
def bo_CQ (l : Launch) (g : bo_G) (y : MethodName) (cc : ByteArray) (nL : Nat) (ret : Option FieldType) (fr lo : Nat) (As : List Value) (σ : bo_M) (h : Int32 → Nat) (m : Option (Option Int32)) : Prop := ∀ r0, m = some r0 →
  Met l y (.code y cc nL ret :: bo_tb) (bo_rm fr lo) (va_Pc As (bo_Pre g σ)) (va_Qq (fun (r : Option Nat) (σ' : bo_M) => r = r0.map (fun c => g.2.2 (h c)) ∧ σ' = σ) (fun σ' t => bo_Pre g σ' t) (bo_A g)) 0 0 (bo_A g)
theorem bo_entry {Qc : Array Value → State → Outcome → State → Prop} (hy : plainName y.cls = true) (hown : y.cls = own) (hi : bo_inj g) (hlen : (lg_sl As).length ≤ nL)
    (hb : ∀ (p : Program) (e : Env) (s : State) (m : MethodId) (below : List Frame) (meth : Method) (c : Code), meth.locks = false → meth.sig.returnType = ret → c.code = cc →
      bo_OK (p, l, e, bo_rm fr lo, s, m, As.toArray, below, meth, c, g, bo_A g, 0, 0, MQ below Qc As.toArray s 0 0 (bo_A g)) cc own nL fr lo →
      bo_N (p, l, e, bo_rm fr lo, s, m, As.toArray, below, meth, c, g, bo_A g, 0, 0, MQ below Qc As.toArray s 0 0 (bo_A g)) 0 (lv_args 0 As) [] σ) :
    Met l y (.code y cc nL ret :: bo_tb) (bo_rm fr lo) (va_Pc As (bo_Pre g σ)) Qc 0 0 (bo_A g) := by
  refine Met.ofW (cc := cc) (maxL := nL) (ret := ret) hy rfl ?_
  intro p e s m args below meth c s₁ B hml hv
  obtain ⟨rfl, hP, hK, hNW⟩ := hv
  have hts := atoms_spec (ws := .code y cc nL ret :: bo_tb) B.pre
  have hown' : s.vm.findClass own = some m.cls := hown ▸ findClass_of_methodNamed B.named
  have hl := lv_entry As (n := nL) hlen
  rw [lg_entry_eq]
  exact hb p e s m below meth c B.notSynchronized B.returns B.bytes ⟨B.exec, B.bytes, hml, hown', fun w hw => hts w (List.mem_cons_of_mem _ hw), hK, hNW, hi, fun n hn => ⟨n, hn, rfl⟩, Nat.le_refl _, Nat.le_refl _, Nat.le_refl _, Nat.le_refl _⟩ s.heap [] _ hP va_S.rf (by rw [hml]; exact hl)
theorem bo_metR {ty : FieldType} {m : Option Int32} (hret : ret = some ty) (hty : (ty = .int ∧ z = false) ∨ (ty = .boolean ∧ z = true)) (hy : plainName y.cls = true) (hown : y.cls = own) (hi : bo_inj g) (hlen : (lg_sl As).length ≤ nL) (hb : ∀ x, bo_l x = l → bo_g x = g → bo_OK x cc own nL fr lo → bo_D x 0 (lv_args 0 As) [] σ m (bo_Ri x cc σ z)) : bo_CR l g y cc nL ret fr lo As σ z m := by
  intro r0 hm
  refine bo_entry hy hown hi hlen ?_
  intro p e s mm below meth c hlocks hr hbc hx
  refine hb _ rfl rfl hx r0 hm ?_
  intro hz pc L hd H locs ls hP hS hl
  have hK := hx.2.2.2.2.2.1
  have hNW := hx.2.2.2.2.2.2.1
  have hq : ∀ t : State, t.heap = H → s.WarmedH t.vm → va_Qi (fun (r : Int32) (σ' : bo_M) => r = r0 ∧ σ' = σ ∧ (z = true → bo_B r)) (fun σ' t => bo_Pre g σ' t) (bo_A g) As.toArray s (.returned (some (.int r0))) t :=
    fun t ht hW => ⟨⟨r0, σ, rfl, ⟨rfl, rfl, hz⟩, ⟨by rw [ht]; exact hP, va_K.moved hW.alike hK, hNW.warm hW⟩⟩, hS.F ht⟩
  rcases hty with ⟨rfl, rfl⟩ | ⟨rfl, rfl⟩
  · exact W.zret (ty := .int) hx.1 hbc (hr.trans hret) rfl hq hS.2.2 hd hlocks
  · exact W.zret (ty := .boolean) hx.1 hbc (hr.trans hret) (by rw [show narrow .boolean (.int r0) = .int (r0 &&& 1) from rfl, (hz rfl).and]) hq hS.2.2 hd hlocks
theorem bo_metW {ty : FieldType} {m : Option (Int32 × bo_M)} (hret : ret = some ty) (hty : (ty = .int ∧ z = false) ∨ (ty = .boolean ∧ z = true)) (hy : plainName y.cls = true) (hown : y.cls = own) (hi : bo_inj g) (hlen : (lg_sl As).length ≤ nL) (hb : ∀ x, bo_l x = l → bo_g x = g → bo_OK x cc own nL fr lo → bo_D x 0 (lv_args 0 As) [] σ m (bo_Rw x cc z)) : bo_CW l g y cc nL ret fr lo As σ z m := by
  intro r0 hm
  refine bo_entry hy hown hi hlen ?_
  intro p e s mm below meth c hlocks hr hbc hx
  refine hb _ rfl rfl hx r0 hm ?_
  intro hz pc L hd H locs ls hP hS hl
  have hK := hx.2.2.2.2.2.1
  have hNW := hx.2.2.2.2.2.2.1
  have hq : ∀ t : State, t.heap = H → s.WarmedH t.vm → va_Qi (fun (r : Int32) (σ' : bo_M) => r = r0.1 ∧ σ' = r0.2 ∧ (z = true → bo_B r)) (fun σ' t => bo_Pre g σ' t) (bo_A g) As.toArray s (.returned (some (.int r0.1))) t :=
    fun t ht hW => ⟨⟨r0.1, r0.2, rfl, ⟨rfl, rfl, hz⟩, ⟨by rw [ht]; exact hP, va_K.moved hW.alike hK, hNW.warm hW⟩⟩, hS.F ht⟩
  rcases hty with ⟨rfl, rfl⟩ | ⟨rfl, rfl⟩
  · exact W.zret (ty := .int) hx.1 hbc (hr.trans hret) rfl hq hS.2.2 hd hlocks
  · exact W.zret (ty := .boolean) hx.1 hbc (hr.trans hret) (by rw [show narrow .boolean (.int r0.1) = .int (r0.1 &&& 1) from rfl, (hz rfl).and]) hq hS.2.2 hd hlocks
theorem bo_metV {m : Option bo_M} (hret : ret = none) (hy : plainName y.cls = true) (hown : y.cls = own) (hi : bo_inj g) (hlen : (lg_sl As).length ≤ nL) (hb : ∀ x, bo_l x = l → bo_g x = g → bo_OK x cc own nL fr lo → bo_D x 0 (lv_args 0 As) [] σ m (bo_Rv x cc)) : bo_CV l g y cc nL ret fr lo As σ m := by
  intro r0 hm
  refine bo_entry hy hown hi hlen ?_
  intro p e s mm below meth c hlocks hr hbc hx
  refine hb _ rfl rfl hx r0 hm ?_
  intro pc L hd H locs ls hP hS hl
  have hK := hx.2.2.2.2.2.1
  have hNW := hx.2.2.2.2.2.2.1
  exact W.vret hx.1 hbc (hr.trans hret) (fun t ht hW => ⟨⟨r0, rfl, rfl, ⟨by rw [ht]; exact hP, va_K.moved hW.alike hK, hNW.warm hW⟩⟩, hS.F ht⟩) hS.2.2 hd hlocks
theorem bo_metQ {n : String} {m : Option (Option Int32)} {h : Int32 → Nat} (hret : ret = some (.object n)) (hy : plainName y.cls = true) (hown : y.cls = own) (hi : bo_inj g) (hlen : (lg_sl As).length ≤ nL) (hb : ∀ x, bo_l x = l → bo_g x = g → bo_OK x cc own nL fr lo → bo_D x 0 (lv_args 0 As) [] σ m (bo_Rq x cc σ h)) : bo_CQ l g y cc nL ret fr lo As σ h m := by
  intro r0 hm
  refine bo_entry hy hown hi hlen ?_
  intro p e s mm below meth c hlocks hr hbc hx
  refine hb _ rfl rfl hx r0 hm ?_
  intro pc L hd H locs ls hP hS hl
  have hK := hx.2.2.2.2.2.1
  have hNW := hx.2.2.2.2.2.2.1
  refine W.aret hx.1 hbc (hr.trans hret) (Or.inl ⟨n, rfl⟩) ?_ (fun t ht hW => ⟨⟨r0.map (fun c => g.2.2 (h c)), σ, rfl, ⟨rfl, rfl⟩, ⟨by rw [ht]; exact hP, va_K.moved hW.alike hK, hNW.warm hW⟩⟩, hS.F ht⟩) hS.2.2 hd hlocks
  cases r0 with
  | none => exact Or.inl rfl
  | some c => exact Or.inr ⟨_, rfl⟩
end BO4
/-! the words of a call -/
def bo_mV (y : MethodName) (cy : ByteArray) (ny : Nat) (rt : Option FieldType) (n : Nat) (C : String) : Prop := Cond.instanceMethod y ∈ bo_tb ∧ Cond.selects C y y ∈ bo_tb ∧ Cond.initialized C ∈ bo_tb ∧ Cond.code y cy ny rt ∈ bo_tb ∧ y.cls = C ∧ y.cls ≠ "java/lang/invoke/MethodHandle" ∧ y.cls ≠ "java/lang/invoke/VarHandle" ∧ (parseMethodDescriptor y.desc).map (fun d => d.parameters.length) = some n
def bo_mS (y : MethodName) (cy : ByteArray) (ny : Nat) (rt : Option FieldType) (n : Nat) : Prop := Cond.static y ∈ bo_tb ∧ Cond.initialized y.cls ∈ bo_tb ∧ Cond.code y cy ny rt ∈ bo_tb ∧ y.cls ≠ "java/lang/invoke/MethodHandle" ∧ y.cls ≠ "java/lang/invoke/VarHandle" ∧ (parseMethodDescriptor y.desc).map (fun d => d.parameters.length) = some n
def bo_Run (x : bo_X) (pc : Nat) (L : List (Nat × Value)) (S0 S : List Value) (σ : bo_M) (Qa : State → Outcome → State → Prop) : Prop := match x with
  | (p, l, e, R, s, m, args, below, meth, c, g, _, cells, slots, _) => ∀ (H : Heap) (locs : List Loc) (ls : Array Slot), va_P g.2.1 bo_cl (bo_ws g σ) H → lv_has ls c.maxLocals L → va_Run p l e R s m args below meth c H locs cells slots 0 0 (F0 m pc ls S0) S Qa (bo_A g)
section BO5
variable {x : bo_X} {cc : ByteArray} {own : String} {nL fr lo : Nat} {pc : Nat} {L : List (Nat × Value)} {S S0 : List Value} {σ : bo_M} {α β : Type} {k : α → Prop} {z : Bool}
  {y : MethodName} {cy : ByteArray} {ny n fy ly idx : Nat} {rt : Option FieldType} {C : String} {As : List Value} {Qc : Array Value → State → Outcome → State → Prop}
theorem bo_blind {As : List Value} {g : bo_G} {σ : bo_M} : FrameBlind (va_Pc As (bo_Pre g σ)) := fun a U f mk q => ⟨q.1, q.2.1, va_K.moved (u := U) (U := U.calling f mk a) (Vm.Alike.refl U.vm) q.2.2.1, bo_NW.same (U := U.calling f mk a) rfl q.2.2.2⟩
theorem bo_runV (hx : bo_OK x cc own nL fr lo) (hd : decode cc pc = .ok (.invokevirtual idx, 3)) (hl0 : Cond.methodLink own idx y ∈ bo_tb) (hm : bo_mV y cy ny rt n C) {o ci : Nat} {ts : List (Nat × Nat)} {q : vw_C} (ho : bo_isO o ci ts) (hc : bo_cl[ci]? = some q) (hq : q.1 = C)
    (hC : Met (bo_l x) y (.code y cy ny rt :: bo_tb) (bo_rm fy ly) (va_Pc (.ref (bo_a x o) :: As) (bo_Pre (bo_g x) σ)) Qc 0 0 (bo_A (bo_g x))) (hroom : fy + 1 ≤ fr ∧ 8 + (ny + 11) + ly ≤ lo) (hn : As.length = n) (hS0 : As.reverse ++ .ref (bo_a x o) :: S = S0) (hcat : (S.map fun v => v.category).sum ≤ 8) :
    bo_Run x pc L S0 S σ (Qc (Value.ref (bo_a x o) :: As).toArray) := by
  obtain ⟨p, l, e, R, s, m, args, below, meth, c, g, A, cells, slots, Q⟩ := x
  obtain ⟨hex, hb, hml, hown, hts, hK, hNW, hi, hA, hfr, hlo, hce, hsl⟩ := hx
  obtain ⟨w1, w2, w3, w4, w5⟩ := hm
  intro H locs ls hP hl
  subst hS0
  refine va_runV (As := As) (rest := S) ⟨hex, hb, hml, hown, hts⟩ hC (cwV n hts (bo_goodIn (fun w hw => ?_)) rfl rfl rfl w5 ⟨Nat.le_trans hroom.1 hfr, Nat.le_trans hroom.2 hlo⟩) ⟨bo_blind, ?_, fun U hU hW => ⟨rfl, by rw [hU]; exact hP, va_K.moved hW.alike hK, hNW.warm hW⟩⟩ rfl hn (hl.1.trans hml) rfl (lv_room hcat) hd ⟨hce, hsl⟩
  · unfold wsV at hw
    rcases List.mem_append.mp hw with h | h
    · simp only [List.mem_cons, List.not_mem_nil, or_false] at h
      rcases h with rfl | rfl | rfl | rfl
      · exact hl0
      · exact w1
      · exact w2
      · exact w3
    · rcases List.mem_cons.mp h with rfl | h
      · exact w4
      · exact h
  · rw [← hq]
    exact va_recv hK hP hc (bo_at_o ho)
theorem bo_runS (hx : bo_OK x cc own nL fr lo) (hd : decode cc pc = .ok (.invokestatic idx, 3)) (hl0 : Cond.methodLink own idx y ∈ bo_tb) (hm : bo_mS y cy ny rt n)
    (hC : Met (bo_l x) y (.code y cy ny rt :: bo_tb) (bo_rm fy ly) (va_Pc As (bo_Pre (bo_g x) σ)) Qc 0 0 (bo_A (bo_g x))) (hroom : fy + 1 ≤ fr ∧ 8 + (ny + 11) + ly ≤ lo) (hn : As.length = n) (hS0 : As.reverse ++ S = S0) (hcat : (S.map fun v => v.category).sum ≤ 8) :
    bo_Run x pc L S0 S σ (Qc As.toArray) := by
  obtain ⟨p, l, e, R, s, m, args, below, meth, c, g, A, cells, slots, Q⟩ := x
  obtain ⟨hex, hb, hml, hown, hts, hK, hNW, hi, hA, hfr, hlo, hce, hsl⟩ := hx
  obtain ⟨w1, w2, w3, w4⟩ := hm
  intro H locs ls hP hl
  subst hS0
  refine va_runS (As := As) (rest := S) ⟨hex, hb, hml, hown, hts⟩ hC (va_cwS n hts (bo_goodIn (fun w hw => ?_)) rfl rfl rfl w4 ⟨Nat.le_trans hroom.1 hfr, Nat.le_trans hroom.2 hlo⟩) ⟨bo_blind, fun U hU hW => ⟨rfl, by rw [hU]; exact hP, va_K.moved hW.alike hK, hNW.warm hW⟩⟩ rfl hn (hl.1.trans hml) rfl (lv_room hcat) hd ⟨hce, hsl⟩
  unfold va_wsS at hw
  rcases List.mem_append.mp hw with h | h
  · simp only [List.mem_cons, List.not_mem_nil, or_false] at h
    rcases h with rfl | rfl | rfl
    · exact hl0
    · exact w1
    · exact w2
  · rcases List.mem_cons.mp h with rfl | h
    · exact w3
    · exact h
theorem bo_runN (hx : bo_OK x cc own nL fr lo) (hd : decode cc pc = .ok (.invokestatic idx, 3)) (hl0 : (own, idx, y) ∈ bo_nests) (hm : bo_mS y cy ny rt n)
    (hC : Met (bo_l x) y (.code y cy ny rt :: bo_tb) (bo_rm fy ly) (va_Pc As (bo_Pre (bo_g x) σ)) Qc 0 0 (bo_A (bo_g x))) (hroom : fy + 1 ≤ fr ∧ 8 + (ny + 11) + ly ≤ lo) (hn : As.length = n) (hS0 : As.reverse ++ S = S0) (hcat : (S.map fun v => v.category).sum ≤ 8) :
    bo_Run x pc L S0 S σ (Qc As.toArray) := by
  obtain ⟨p, l, e, R, s, m, args, below, meth, c, g, A, cells, slots, Q⟩ := x
  obtain ⟨hex, hb, hml, hown, hts, hK, hNW, hi, hA, hfr, hlo, hce, hsl⟩ := hx
  obtain ⟨w1, w2, w3, w4⟩ := hm
  intro H locs ls hP hl
  subst hS0
  refine va_runSN (As := As) (rest := S) ⟨hex, hb, hml, hown, hts⟩ hC ⟨va_cnB (host := "BellRope") n hts (bo_goodIn (fun w hw => ?_)) rfl rfl rfl (hNW _ hl0) (hts _ w2) w4 ⟨Nat.le_trans hroom.1 hfr, Nat.le_trans hroom.2 hlo⟩, hts _ w1, trivial⟩ ⟨bo_blind, fun U hU hW => ⟨rfl, by rw [hU]; exact hP, va_K.moved hW.alike hK, hNW.warm hW⟩⟩ rfl hn (hl.1.trans hml) rfl (lv_room hcat) hd ⟨hce, hsl⟩
  rcases List.mem_cons.mp hw with rfl | h
  · exact w3
  · exact h
theorem bo_sub_A {x : bo_X} {A : Nat → Prop} {g : bo_G} (hA : ∀ n, n < 168 → A (g.2.2 n)) (q : Nat) (h : bo_A g q) : A q := by
  obtain ⟨n, hn, rfl⟩ := h
  exact hA n hn
theorem bo_goR {m : Option Int32} {K : Int32 → Option α} {a : Array Value} (hx : bo_OK x cc own nL fr lo) (hr : ∀ r0, m = some r0 → bo_Run x pc L S0 S σ (va_Qi (fun (r : Int32) (σ' : bo_M) => r = r0 ∧ σ' = σ ∧ (z = true → bo_B r)) (fun σ' t => bo_Pre (bo_g x) σ' t) (bo_A (bo_g x)) a))
    (kk : ∀ r, (z = true → bo_B r) → bo_D x (pc + 3) L (.int r :: S) σ (K r) k) : bo_D x pc L S0 σ (m.bind K) k := by
  obtain ⟨p, l, e, R, s, mm, args, below, meth, c, g, A, cells, slots, Q⟩ := x
  obtain ⟨hex, hb, hml, hown, hts, hK, hNW, hi, hA, hfr, hlo, hce, hsl⟩ := hx
  intro r h1 h2 H locs ls hP hS hl
  obtain ⟨r0, hm0, hK0⟩ := bo_bind h1
  refine va_calli (hr r0 hm0 H locs ls hP hl) hS (fun q _ h => bo_sub_A (x := (p, l, e, R, s, mm, args, below, meth, c, g, A, cells, slots, Q)) hA q h) (fun q h => bo_sub_A (x := (p, l, e, R, s, mm, args, below, meth, c, g, A, cells, slots, Q)) hA q h) (fun v u t H1 locs1 ht hvm hw hB hz1 hk1 hS1 => ?_)
  obtain ⟨rfl, rfl, hz⟩ := hw
  obtain ⟨hP1, -, -⟩ := hB
  rw [ht] at hP1
  exact kk v hz r hK0 h2 H1 locs1 ls hP1 hS1 hl
theorem bo_goW {m : Option (Int32 × bo_M)} {K : Int32 × bo_M → Option α} {a : Array Value} (hx : bo_OK x cc own nL fr lo) (hr : ∀ r0, m = some r0 → bo_Run x pc L S0 S σ (va_Qi (fun (r : Int32) (σ' : bo_M) => r = r0.1 ∧ σ' = r0.2 ∧ (z = true → bo_B r)) (fun σ' t => bo_Pre (bo_g x) σ' t) (bo_A (bo_g x)) a))
    (kk : ∀ r : Int32 × bo_M, (z = true → bo_B r.1) → bo_D x (pc + 3) L (.int r.1 :: S) r.2 (K r) k) : bo_D x pc L S0 σ (m.bind K) k := by
  obtain ⟨p, l, e, R, s, mm, args, below, meth, c, g, A, cells, slots, Q⟩ := x
  obtain ⟨hex, hb, hml, hown, hts, hK, hNW, hi, hA, hfr, hlo, hce, hsl⟩ := hx
  intro r h1 h2 H locs ls hP hS hl
  obtain ⟨r0, hm0, hK0⟩ := bo_bind h1
  refine va_calli (hr r0 hm0 H locs ls hP hl) hS (fun q _ h => bo_sub_A (x := (p, l, e, R, s, mm, args, below, meth, c, g, A, cells, slots, Q)) hA q h) (fun q h => bo_sub_A (x := (p, l, e, R, s, mm, args, below, meth, c, g, A, cells, slots, Q)) hA q h) (fun v u t H1 locs1 ht hvm hw hB hz1 hk1 hS1 => ?_)
  obtain ⟨rfl, rfl, hz⟩ := hw
  obtain ⟨hP1, -, -⟩ := hB
  rw [ht] at hP1
  exact kk r0 hz r hK0 h2 H1 locs1 ls hP1 hS1 hl
theorem bo_goV {m : Option bo_M} {K : bo_M → Option α} {a : Array Value} (hx : bo_OK x cc own nL fr lo) (hr : ∀ r0, m = some r0 → bo_Run x pc L S0 S σ (va_Qv (fun (σ' : bo_M) => σ' = r0) (fun σ' t => bo_Pre (bo_g x) σ' t) (bo_A (bo_g x)) a))
    (kk : ∀ σ', bo_D x (pc + 3) L S σ' (K σ') k) : bo_D x pc L S0 σ (m.bind K) k := by
  obtain ⟨p, l, e, R, s, mm, args, below, meth, c, g, A, cells, slots, Q⟩ := x
  obtain ⟨hex, hb, hml, hown, hts, hK, hNW, hi, hA, hfr, hlo, hce, hsl⟩ := hx
  intro r h1 h2 H locs ls hP hS hl
  obtain ⟨r0, hm0, hK0⟩ := bo_bind h1
  refine va_callv (hr r0 hm0 H locs ls hP hl) hS (fun q _ h => bo_sub_A (x := (p, l, e, R, s, mm, args, below, meth, c, g, A, cells, slots, Q)) hA q h) (fun q h => bo_sub_A (x := (p, l, e, R, s, mm, args, below, meth, c, g, A, cells, slots, Q)) hA q h) (fun u t H1 locs1 ht hvm hw hB hz1 hk1 hS1 => ?_)
  subst hw
  obtain ⟨hP1, -, -⟩ := hB
  rw [ht] at hP1
  exact kk u r hK0 h2 H1 locs1 ls hP1 hS1 hl
abbrev bo_oc {β : Type} (r : Option Int32) (M0 : Option β) (M1 : Int32 → Option β) : Option β := match r with
  | none => M0
  | some c => M1 c
theorem bo_goQ {m : Option (Option Int32)} {M0 : Option α} {M1 : Int32 → Option α} {h : Int32 → Nat} {a : Array Value} (hx : bo_OK x cc own nL fr lo) (hr : ∀ r0, m = some r0 → bo_Run x pc L S0 S σ (va_Qq (fun (r : Option Nat) (σ' : bo_M) => r = r0.map (fun c => (bo_g x).2.2 (h c)) ∧ σ' = σ) (fun σ' t => bo_Pre (bo_g x) σ' t) (bo_A (bo_g x)) a))
    (k0 : bo_D x (pc + 3) L (.null :: S) σ M0 k) (k1 : ∀ c, bo_D x (pc + 3) L (.ref (bo_a x (h c)) :: S) σ (M1 c) k) : bo_D x pc L S0 σ (m.bind fun q => bo_oc q M0 M1) k := by
  obtain ⟨p, l, e, R, s, mm, args, below, meth, c, g, A, cells, slots, Q⟩ := x
  obtain ⟨hex, hb, hml, hown, hts, hK, hNW, hi, hA, hfr, hlo, hce, hsl⟩ := hx
  intro r h1 h2 H locs ls hP hS hl
  obtain ⟨r0, hm0, hK0⟩ := bo_bind h1
  refine va_callq (hr r0 hm0 H locs ls hP hl) hS (fun q _ h => bo_sub_A (x := (p, l, e, R, s, mm, args, below, meth, c, g, A, cells, slots, Q)) hA q h) (fun q h => bo_sub_A (x := (p, l, e, R, s, mm, args, below, meth, c, g, A, cells, slots, Q)) hA q h) (fun v u t H1 locs1 ht hvm hw hB hz1 hk1 hS1 => ?_)
  obtain ⟨rfl, rfl⟩ := hw
  obtain ⟨hP1, -, -⟩ := hB
  rw [ht] at hP1
  cases r0 with
  | none => exact k0 r hK0 h2 H1 locs1 ls hP1 hS1 hl
  | some c0 => exact k1 c0 r hK0 h2 H1 locs1 ls hP1 hS1 hl
theorem bo_OK.inj (hx : bo_OK x cc own nL fr lo) : bo_inj (bo_g x) := by
  obtain ⟨p, l, e, R, s, mm, args, below, meth, c, g, A, cells, slots, Q⟩ := x
  exact hx.2.2.2.2.2.2.2.1
end BO5
/-- more than any loop of the class or the reference needs; nothing unfolds it -/
noncomputable def bo_fuel : Nat := Classical.choose (⟨3000, Nat.le_refl _⟩ : ∃ n : Nat, 3000 ≤ n)
theorem bo_fuel_le : 3000 ≤ bo_fuel := Classical.choose_spec (⟨3000, Nat.le_refl _⟩ : ∃ n : Nat, 3000 ≤ n)
