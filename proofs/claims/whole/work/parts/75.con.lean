/-! constructors: the rows of the machine over a growing world -/
section CON
abbrev co_X : Type := Program × Launch × Env × Room × State × MethodId × Array Value × List Frame × Method × Code × (Nat → ClassId) × va_G × (Nat → Prop) × (State → Prop)
def co_l (x : co_X) : Launch := x.2.1
def co_c3 (x : co_X) : Nat → ClassId := x.2.2.2.2.2.2.2.2.2.2.1
def co_G (x : co_X) : va_G := x.2.2.2.2.2.2.2.2.2.2.2.1
def co_NW (U : State) : Prop := bo_NW U ∧ va_AO "BellRope$Evening" U
theorem co_NW.warm {s U : State} (hW : s.WarmedH U.vm) (h : co_NW s) : co_NW U := ⟨h.1.warm hW, h.2.moved hW.alike⟩
theorem co_NW.same {u U : State} (e : u.vm = U.vm) (h : co_NW u) : co_NW U := ⟨h.1.same e, va_AO.moved (u := u) (U := U) (by rw [e]; exact Vm.Alike.refl _) h.2⟩
def co_N (x : co_X) (pc : Nat) (L : List (Nat × Value)) (S : List Value) (V : va_W) (k n : Nat) : Prop := match x with
  | (p, l, e, R, s, m, args, below, meth, c, _, D, A, Q) => ∀ (H : Heap) (locs : List Loc) (ls : Array Slot), va_P D bo_cl V H → va_D A V → va_S A s.heap H locs → lv_has ls c.maxLocals L → W p l e R s m args below meth c H locs k n Q (F0 m pc ls S)
def co_OK (x : co_X) (cc : ByteArray) (own : String) (nL fr lo kc ks : Nat) : Prop := match x with
  | (p, _, _, R, s, m, args, _, _, c, c3, D, A, _) => p.tables.exec = Jvm.exec ∧ c.code = cc ∧ c.maxLocals = nL ∧ s.vm.findClass own = some m.cls ∧ (∀ w ∈ bo_tb, w.before args s = true) ∧ va_K D bo_cl (bo_tys c3) s ∧ co_NW s ∧ (∀ q : Nat, s.heap.size ≤ q → A q) ∧ fr ≤ R.frames ∧ lo ≤ R.locals ∧ kc ≤ R.cells ∧ ks ≤ R.slots
def co_I (x : co_X) : Prop := match x with
  | (_, _, _, _, _, _, _, _, meth, _, _, _, _, _) => meth.name = "<init>"
theorem co_obj : Cond.instanceMethod objectInit ∈ bo_tb ∧ Cond.code objectInit ⟨#[0xb1]⟩ 1 none ∈ bo_tb ∧ Cond.arrayClass .int ∈ bo_tb := ⟨bo_mem 82 (by decide +kernel) (by decide +kernel), bo_mem 83 (by decide +kernel) (by decide +kernel), bo_mem 111 (by decide +kernel) (by decide +kernel)⟩
theorem co_bool : Cond.arrayClass .boolean ∈ bo_tb := bo_mem 1044 (by decide +kernel) (by decide +kernel)
theorem co_one {D : va_G} {tys : List (ClassId × FieldType)} {s : State} (hK : va_K D bo_cl tys s) {i j : Nat} {a b : ClassId} {ty : FieldType} (h0 : ∀ U cA, va_RA U cA ty → U.vm.findClass ("[" ++ ty.toString) = some cA) (h1 : tys[i]? = some (a, ty)) (h2 : tys[j]? = some (b, ty)) : a = b := by
  have e1 := h0 _ _ (hK.2 i _ h1).2
  have e2 := h0 _ _ (hK.2 j _ h2).2
  exact Option.some.inj (e1.symm.trans e2)
theorem co_RAi : ∀ U cA, va_RA U cA .int → U.vm.findClass ("[" ++ FieldType.int.toString) = some cA := fun _ _ h => h
theorem co_RAz : ∀ U cA, va_RA U cA .boolean → U.vm.findClass ("[" ++ FieldType.boolean.toString) = some cA := fun _ _ h => h
theorem co_RAq {C : String} : ∀ U cA, va_RA U cA (.object C) → U.vm.findClass ("[" ++ (FieldType.object C).toString) = some cA := fun _ _ h => by
  obtain ⟨_, _, _, _, _, h⟩ := h
  exact h
section ROWS
variable {x : co_X} {cc : ByteArray} {own : String} {nL fr lo kc ks : Nat} {pc : Nat} {L : List (Nat × Value)} {S : List Value} {V : va_W} {k n : Nat}
theorem co_iconst (hx : co_OK x cc own nL fr lo kc ks) {z : Int} {v : Int32} (hd : decode cc pc = .ok (.iconst z, 1)) (hv : Int32.ofInt z = v) (kk : co_N x (pc + 1) L (.int v :: S) V k n) : co_N x pc L S V k n := by
  obtain ⟨p, l, e, R, s, m, args, below, meth, c, c3, D, A, Q⟩ := x
  obtain ⟨hex, hb, hml, hown, hts, hK, hNW, hA, hfr, hlo, hkc, hks⟩ := hx
  intro H locs ls hP hD hS hl
  exact lv_iconst hex hb hd hv (kk H locs ls hP hD hS hl)
theorem co_bipush (hx : co_OK x cc own nL fr lo kc ks) {z : Int} {v : Int32} (hd : decode cc pc = .ok (.bipush z, 2)) (hv : (Int8.ofInt z).toInt32 = v) (kk : co_N x (pc + 2) L (.int v :: S) V k n) : co_N x pc L S V k n := by
  obtain ⟨p, l, e, R, s, m, args, below, meth, c, c3, D, A, Q⟩ := x
  obtain ⟨hex, hb, hml, hown, hts, hK, hNW, hA, hfr, hlo, hkc, hks⟩ := hx
  intro H locs ls hP hD hS hl
  exact lv_bipush hex hb hd hv (kk H locs ls hP hD hS hl)
theorem co_sipush (hx : co_OK x cc own nL fr lo kc ks) {z : Int} {v : Int32} (hd : decode cc pc = .ok (.sipush z, 3)) (hv : (Int16.ofInt z).toInt32 = v) (kk : co_N x (pc + 3) L (.int v :: S) V k n) : co_N x pc L S V k n := by
  obtain ⟨p, l, e, R, s, m, args, below, meth, c, c3, D, A, Q⟩ := x
  obtain ⟨hex, hb, hml, hown, hts, hK, hNW, hA, hfr, hlo, hkc, hks⟩ := hx
  intro H locs ls hP hD hS hl
  exact lv_sipush hex hb hd hv (kk H locs ls hP hD hS hl)
theorem co_aload (hx : co_OK x cc own nL fr lo kc ks) {j : Fin 4} {i a : Nat} (hd : decode cc pc = .ok (.aload_n j, 1)) (hi : (j : Nat) = i) (q : Nat) (hq : L[q]? = some (i, .ref a)) (kk : co_N x (pc + 1) L (.ref a :: S) V k n) : co_N x pc L S V k n := by
  obtain ⟨p, l, e, R, s, m, args, below, meth, c, c3, D, A, Q⟩ := x
  obtain ⟨hex, hb, hml, hown, hts, hK, hNW, hA, hfr, hlo, hkc, hks⟩ := hx
  intro H locs ls hP hD hS hl
  exact lv_aload_n hex hb hd hi (lv_at hl q hq) (kk H locs ls hP hD hS hl)
theorem co_dup (hx : co_OK x cc own nL fr lo kc ks) {a : Nat} (hd : decode cc pc = .ok (.dup, 1)) (kk : co_N x (pc + 1) L (.ref a :: .ref a :: S) V k n) : co_N x pc L (.ref a :: S) V k n := by
  obtain ⟨p, l, e, R, s, m, args, below, meth, c, c3, D, A, Q⟩ := x
  obtain ⟨hex, hb, hml, hown, hts, hK, hNW, hA, hfr, hlo, hkc, hks⟩ := hx
  intro H locs ls hP hD hS hl
  exact lv_dup hex hb hd rfl (kk H locs ls hP hD hS hl)
theorem co_super (hx : co_OK x cc own nL fr lo kc ks) {idx a : Nat} (hd : decode cc pc = .ok (.invokespecial idx, 3)) (hlink : Cond.methodLink own idx objectInit ∈ bo_tb) (hf : 1 ≤ fr) (hl0 : 12 ≤ lo) (kk : co_N x (pc + 3) L [] V k n) : co_N x pc L [.ref a] V k n := by
  obtain ⟨p, l, e, R, s, m, args, below, meth, c, c3, D, A, Q⟩ := x
  obtain ⟨hex, hb, hml, hown, hts, hK, hNW, hA, hfr, hlo, hkc, hks⟩ := hx
  intro H locs ls hP hD hS hl
  refine W.objInit hex hb hown (hts _ hlink) (hts _ co_obj.1) (hts _ co_obj.2.1) rfl hl.1 rfl hd (Nat.le_trans hf hfr) ?_ (W.eq (g2 := F0 m (pc + 3) ls []) rfl (kk H locs ls hP hD hS hl))
  show 2 * 0 + 0 + 12 ≤ R.locals
  omega
theorem co_newa (hx : co_OK x cc own nL fr lo kc ks) {v : Int32} {len : Nat} (hd : decode cc pc = .ok (.newarray .int, 2)) (hn : ¬ v < 0) (hN : v.toNatClampNeg = len) (hby : len * 4 ≤ 536870912) (hk : k + 1 ≤ kc) (hs : n + len ≤ ks)
    (kk : ∀ q, co_N x (pc + 2) L (.ref q :: S) (V ++ [(q, .inl (co_c3 x 0, len, .inl (fun _ => 0)))]) (k + 1) (n + len)) : co_N x pc L (.int v :: S) V k n := by
  obtain ⟨p, l, e, R, s, m, args, below, meth, c, c3, D, A, Q⟩ := x
  obtain ⟨hex, hb, hml, hown, hts, hK, hNW, hA, hfr, hlo, hkc, hks⟩ := hx
  intro H locs ls hP hD hS hl
  refine va_newa (atype := .int) (ty := .int) (a0 := (len, .inl (fun _ => 0))) hex hb (hts (.arrayClass .int) co_obj.2.2) rfl hK hP hD hS hA (fun _ => rfl) hn hN hby (Nat.le_trans hk hkc) (Nat.le_trans hs hks) hd (fun q cA H1 hK1 hP1 hD1 hS1 => ?_)
  have e : cA = c3 0 := co_one hK1 (i := 3) (j := 0) co_RAi rfl rfl
  subst e
  exact kk q H1 locs ls hP1 hD1 hS1 hl
theorem co_newz (hx : co_OK x cc own nL fr lo kc ks) {v : Int32} {len : Nat} (hd : decode cc pc = .ok (.newarray .boolean, 2)) (hn : ¬ v < 0) (hN : v.toNatClampNeg = len) (hby : len * componentBytes .boolean ≤ 536870912) (hk : k + 1 ≤ kc) (hs : n + len ≤ ks)
    (kk : ∀ q, co_N x (pc + 2) L (.ref q :: S) (V ++ [(q, .inl (co_c3 x 1, len, .inl (fun _ => 0)))]) (k + 1) (n + len)) : co_N x pc L (.int v :: S) V k n := by
  obtain ⟨p, l, e, R, s, m, args, below, meth, c, c3, D, A, Q⟩ := x
  obtain ⟨hex, hb, hml, hown, hts, hK, hNW, hA, hfr, hlo, hkc, hks⟩ := hx
  intro H locs ls hP hD hS hl
  refine va_newa (atype := .boolean) (ty := .boolean) (a0 := (len, .inl (fun _ => 0))) hex hb (hts (.arrayClass .boolean) co_bool) rfl hK hP hD hS hA (fun _ => rfl) hn hN hby (Nat.le_trans hk hkc) (Nat.le_trans hs hks) hd (fun q cA H1 hK1 hP1 hD1 hS1 => ?_)
  have e : cA = c3 1 := co_one hK1 (i := 3) (j := 1) co_RAz rfl rfl
  subst e
  exact kk q H1 locs ls hP1 hD1 hS1 hl
theorem co_newq (hx : co_OK x cc own nL fr lo kc ks) {v : Int32} {len idx : Nat} (hd : decode cc pc = .ok (.anewarray idx, 3)) (hlink : Cond.classLink own idx "BellRope$Evening" ∈ bo_tb) (hn : ¬ v < 0) (hN : v.toNatClampNeg = len) (hby : len * 4 ≤ 536870912) (hk : k + 1 ≤ kc) (hs : n + len ≤ ks)
    (kk : ∀ q, co_N x (pc + 3) L (.ref q :: S) (V ++ [(q, .inl (co_c3 x 2, len, .inr (.inr (.inr (.inr (fun _ => none))))))]) (k + 1) (n + len)) : co_N x pc L (.int v :: S) V k n := by
  obtain ⟨p, l, e, R, s, m, args, below, meth, c, c3, D, A, Q⟩ := x
  obtain ⟨hex, hb, hml, hown, hts, hK, hNW, hA, hfr, hlo, hkc, hks⟩ := hx
  intro H locs ls hP hD hS hl
  refine va_newq hex hb hown (hts _ hlink) hNW.2 hK hP hD hS hA hn hN hby (Nat.le_trans hk hkc) (Nat.le_trans hs hks) hd (fun q cA H1 hK1 hP1 hD1 hS1 => ?_)
  have e : cA = c3 2 := co_one hK1 (i := 3) (j := 2) co_RAq rfl rfl
  subst e
  exact kk q H1 locs ls hP1 hD1 hS1 hl
theorem co_new (hx : co_OK x cc own nL fr lo kc ks) {C : String} {T : u_T} {N ci idx : Nat} {fs : List Value} (hd : decode cc pc = .ok (.new idx, 3)) (hin : ∀ w ∈ u_ws C T N, w ∈ bo_tb) (ty : Nat → FieldType) (hty : ∀ k, k < N → parseFieldDescriptor (T k).2.2.1 = some (ty k)) (hcl : Cond.classLink own idx C ∈ bo_tb) (hinst : Cond.instantiable C N ∈ bo_tb) (hini : Cond.initialized C ∈ bo_tb) (hc : bo_cl[ci]? = some (C, T, N)) (hfs : ∀ j, j < N → defaultValue (ty j) = vp_V fs j) (hk : k + 1 ≤ kc) (hs : n + N ≤ ks)
    (kk : ∀ q, co_N x (pc + 3) L (.ref q :: S) (V ++ [(q, .inr (ci, fs))]) (k + 1) (n + N)) : co_N x pc L S V k n := by
  obtain ⟨p, l, e, R, s, m, args, below, meth, c, c3, D, A, Q⟩ := x
  obtain ⟨hex, hb, hml, hown, hts, hK, hNW, hA, hfr, hlo, hkc, hks⟩ := hx
  intro H locs ls hP hD hS hl
  exact va_new hex hb hts hin ty hty hown (hts _ hcl) (hts _ hinst) (hts _ hini) hK hP hD hS hA hc hfs (Nat.le_trans hk hkc) (Nat.le_trans hs hks) hd (fun q H1 hP1 hD1 hS1 => kk q H1 locs ls hP1 hD1 hS1 hl)
theorem co_putF (hx : co_OK x cc own nL fr lo kc ks) (hin0 : co_I x) {C : String} {T : u_T} {N ci i idx a : Nat} {fs : List Value} {v : Value} {ty : FieldType} (hd : decode cc pc = .ok (.putfield idx, 3)) (hin : ∀ w ∈ u_ws C T N, w ∈ bo_tb) (ty0 : Nat → FieldType) (hty : ∀ k, k < N → parseFieldDescriptor (T k).2.2.1 = some (ty0 k)) (hnm : ∀ a, a < N → ∀ b, b < N → a ≠ b → (T a).2.1 ≠ (T b).2.1) (hc : bo_cl[ci]? = some (C, T, N)) (hi : i < N) (hlink : Cond.fieldLink own idx C (T i).2.1 (T i).2.2.1 ∈ bo_tb) (hsame : (T i).1 = C) (hfin : (T i).2.2.2 = true) (hdecl : (T i).1 = own) (hd0 : ty0 i = ty) (hn0 : narrow ty v = v) (hfit : fits ty v = true) (hl0 : i < fs.length)
    (kk : co_N x (pc + 3) L S ((a, .inr (ci, fs.set i v)) :: V) k n) : co_N x pc L (v :: .ref a :: S) ((a, .inr (ci, fs)) :: V) k n := by
  obtain ⟨p, l, e, R, s, m, args, below, meth, c, c3, D, A, Q⟩ := x
  obtain ⟨hex, hb, hml, hown, hts, hK, hNW, hA, hfr, hlo, hkc, hks⟩ := hx
  intro H locs ls hP hD hS hl
  exact va_putF hex hb hts hin ty0 hty hnm hown hK hP hD hS 0 rfl hc i hi (hts _ hlink) (fun z hz => by rw [hsame] at hz; exact hz) hfin hin0 hdecl (by rw [hty i hi, hd0]) hn0 hfit hl0 hd (fun H1 locs1 hP1 hD1 hS1 => kk H1 locs1 ls hP1 hD1 hS1 hl)
theorem co_put (hx : co_OK x cc own nL fr lo kc ks) {C : String} {T : u_T} {N ci i idx a : Nat} {fs : List Value} {v : Value} {ty : FieldType} (hd : decode cc pc = .ok (.putfield idx, 3)) (hin : ∀ w ∈ u_ws C T N, w ∈ bo_tb) (ty0 : Nat → FieldType) (hty : ∀ k, k < N → parseFieldDescriptor (T k).2.2.1 = some (ty0 k)) (hnm : ∀ a, a < N → ∀ b, b < N → a ≠ b → (T a).2.1 ≠ (T b).2.1) (hc : bo_cl[ci]? = some (C, T, N)) (hi : i < N) (hlink : Cond.fieldLink own idx C (T i).2.1 (T i).2.2.1 ∈ bo_tb) (hsame : (T i).1 = C) (hfin : (T i).2.2.2 = false) (hd0 : ty0 i = ty) (hn0 : narrow ty v = v) (hfit : fits ty v = true) (hl0 : i < fs.length)
    (kk : co_N x (pc + 3) L S ((a, .inr (ci, fs.set i v)) :: V) k n) : co_N x pc L (v :: .ref a :: S) ((a, .inr (ci, fs)) :: V) k n := by
  obtain ⟨p, l, e, R, s, m, args, below, meth, c, c3, D, A, Q⟩ := x
  obtain ⟨hex, hb, hml, hown, hts, hK, hNW, hA, hfr, hlo, hkc, hks⟩ := hx
  intro H locs ls hP hD hS hl
  exact va_put hex hb hts hin ty0 hty hnm hown hK hP hD hS 0 rfl hc i hi (hts _ hlink) (fun z hz => by rw [hsame] at hz; exact hz) hfin (by rw [hty i hi, hd0]) hn0 hfit hl0 hd (fun H1 locs1 hP1 hD1 hS1 => kk H1 locs1 ls hP1 hD1 hS1 hl)
theorem co_get (hx : co_OK x cc own nL fr lo kc ks) {C : String} {T : u_T} {N ci i idx a : Nat} {fs : List Value} {v : Value} (hd : decode cc pc = .ok (.getfield idx, 3)) (hin : ∀ w ∈ u_ws C T N, w ∈ bo_tb) (hc : bo_cl[ci]? = some (C, T, N)) (hi : i < N) (hlink : Cond.fieldLink own idx C (T i).2.1 (T i).2.2.1 ∈ bo_tb) (hsame : (T i).1 = C) (hv : fs[i]? = some v)
    (kk : co_N x (pc + 3) L (v :: S) ((a, .inr (ci, fs)) :: V) k n) : co_N x pc L (.ref a :: S) ((a, .inr (ci, fs)) :: V) k n := by
  obtain ⟨p, l, e, R, s, m, args, below, meth, c, c3, D, A, Q⟩ := x
  obtain ⟨hex, hb, hml, hown, hts, hK, hNW, hA, hfr, hlo, hkc, hks⟩ := hx
  intro H locs ls hP hD hS hl
  exact va_get hex hb hts hin hown hK hP 0 rfl hc i hi (hts _ hlink) (fun z hz => by rw [hsame] at hz; exact hz) hv hd (kk H locs ls hP hD hS hl)
end ROWS
/-! a constructor's contract, its call, its end -/
abbrev co_rm (fr lo kc ks : Nat) : Room := { frames := fr, cells := kc, slots := ks, locals := lo }
def co_Pre (c3 : Nat → ClassId) (D : va_G) (ci : Nat) (d0 : List Value) (h0 sz : Nat) : State → Prop := fun U => U.heap.size = sz ∧ va_P D bo_cl [(h0, .inr (ci, d0))] U.heap ∧ va_K D bo_cl (bo_tys c3) U ∧ co_NW U
def co_C (l : Launch) (c3 : Nat → ClassId) (D : va_G) (y : MethodName) (cc : ByteArray) (nL fr lo kc ks ci : Nat) (d0 : List Value) (bk : (Nat → Nat) → va_W) (r : Nat) : Prop := ∀ h0 sz : Nat,
  Met l y (.code y cc nL none :: bo_tb) (co_rm fr lo kc ks) (va_Pc [.ref h0] (co_Pre c3 D ci d0 h0 sz)) (va_Qv (fun ad : Nat → Nat => ad r = h0) (fun ad t => va_P D bo_cl (bk ad) t.heap ∧ va_D (va_A [(h0, .inr (ci, d0))] sz) (bk ad)) (va_A [(h0, .inr (ci, d0))] sz)) kc ks (va_A [(h0, .inr (ci, d0))] sz)
theorem co_nd_range' : ∀ (n s : Nat), va_nd (List.range' s n) = true
  | 0, _ => rfl
  | n + 1, s => by
    rw [List.range'_succ, va_nd, co_nd_range' n (s + 1)]
    simp [List.mem_range']
    intro x _
    omega
theorem co_nd_range (n : Nat) : va_nd (List.range n) = true := by rw [List.range_eq_range']; exact co_nd_range' n 0
theorem co_isC (V : va_W) (q : Nat × va_E) : [V.length].map (fun i => (V ++ [q])[i]?) = [q].map some := by simp
theorem co_isR (V : va_W) (q : Nat × va_E) : (List.range V.length).map (fun i => (V ++ [q])[i]?) = V.map some := by
  apply List.ext_getElem?
  intro i
  rw [List.getElem?_map, List.getElem?_map]
  by_cases h : i < V.length
  · rw [List.getElem?_range h, List.getElem?_eq_getElem h]
    simp [List.getElem?_append_left h, List.getElem?_eq_getElem h]
  · rw [List.getElem?_eq_none (by simp; omega), List.getElem?_eq_none (by omega)]
    rfl
section CALL
variable {x : co_X} {cc : ByteArray} {own : String} {nL fr lo kc ks : Nat} {pc : Nat} {L : List (Nat × Value)} {S : List Value} {V : va_W} {k n : Nat}
def co_mI (y : MethodName) (cy : ByteArray) (ny : Nat) : Prop := Cond.instanceMethod y ∈ bo_tb ∧ Cond.initialized y.cls ∈ bo_tb ∧ Cond.code y cy ny none ∈ bo_tb ∧ y.name = "<init>" ∧ y.cls ≠ "java/lang/invoke/MethodHandle" ∧ y.cls ≠ "java/lang/invoke/VarHandle" ∧ (parseMethodDescriptor y.desc).map (fun d => d.parameters.length) = some 0
theorem co_blind {As : List Value} {c3 : Nat → ClassId} {D : va_G} {ci : Nat} {d0 : List Value} {h0 sz : Nat} : FrameBlind (va_Pc As (co_Pre c3 D ci d0 h0 sz)) := fun a U f mk q => ⟨q.1, q.2.1, q.2.2.1, va_K.moved (u := U) (U := U.calling f mk a) (Vm.Alike.refl U.vm) q.2.2.2.1, co_NW.same (U := U.calling f mk a) rfl q.2.2.2.2⟩
theorem co_call (hx : co_OK x cc own nL fr lo kc ks) {y : MethodName} {cy : ByteArray} {ny fy ly mc ms ci r q idx : Nat} {d0 : List Value} {bk : (Nat → Nat) → va_W} (hd : decode cc pc = .ok (.invokespecial idx, 3)) (hm : co_mI y cy ny) (hlink : Cond.methodLink own idx y ∈ bo_tb ∨ (own, idx, y) ∈ bo_nests) (hC : co_C (co_l x) (co_c3 x) (co_G x) y cy ny fy ly mc ms ci d0 bk r) (hroom : fy + 1 ≤ fr ∧ 8 + (ny + 11) + ly ≤ lo) (hcat : (S.map fun v => v.category).sum ≤ 8) (hk : k + mc ≤ kc) (hs : n + ms ≤ ks)
    (kk : ∀ ad, ad r = q → co_N x (pc + 3) L S (V ++ bk ad) (k + mc) (n + ms)) : co_N x pc L (.ref q :: S) (V ++ [(q, .inr (ci, d0))]) k n := by
  obtain ⟨p, l, e, R, s, m, args, below, meth, c, c3, D, A, Q⟩ := x
  obtain ⟨hex, hb, hml, hown, hts, hK, hNW, hA, hfr, hlo, hkc, hks⟩ := hx
  obtain ⟨w1, w2, w3, w4, w5⟩ := hm
  intro H locs ls hP hD hS hl
  have hPc := hP.sub (ws' := [(q, .inr (ci, d0))]) [V.length] (by simp)
  have hFc : ∀ z, va_A [(q, .inr (ci, d0))] H.size z → A z := va_free (wc := [(q, .inr (ci, d0))]) hD hS hA [V.length] (co_isC V _)
  have hG : GoodIn bo_tb (.code y cy ny none :: bo_tb) := bo_goodIn (fun w hw => by
    rcases List.mem_cons.mp hw with rfl | h
    · exact w3
    · exact h)
  have hrun : va_Run p l e R s m args below meth c H locs k n mc ms (F0 m pc ls (.ref q :: S)) S (va_Qv (fun ad : Nat → Nat => ad r = q) (fun ad t => va_P D bo_cl (bk ad) t.heap ∧ va_D (va_A [(q, .inr (ci, d0))] H.size) (bk ad)) (va_A [(q, .inr (ci, d0))] H.size) (Value.ref q :: []).toArray) (va_A [(q, .inr (ci, d0))] H.size) := by
    have hpre : PreS s H (va_Pc [.ref q] (co_Pre c3 D ci d0 q H.size)) (.ref q :: []) := ⟨co_blind, fun U hU hW => ⟨rfl, by rw [hU], by rw [hU]; exact hPc, va_K.moved hW.alike hK, hNW.warm hW⟩⟩
    rcases hlink with h | h
    · exact va_runI (As := []) (rest := S) ⟨hex, hb, hml, hown, hts⟩ (hC q H.size) (cwI 0 hts hG rfl rfl rfl (hts _ w2) (hts _ h) (hts _ w1) w4 w5 ⟨Nat.le_trans hroom.1 hfr, Nat.le_trans hroom.2 hlo⟩) hpre rfl rfl (hl.1.trans hml) rfl (lv_room hcat) hd ⟨Nat.le_trans hk hkc, Nat.le_trans hs hks⟩
    · exact va_runIN (As := []) (rest := S) ⟨hex, hb, hml, hown, hts⟩ (hC q H.size) ⟨va_cnB (host := "BellRope") 0 hts hG rfl rfl rfl (hNW.1 _ h) (hts _ w2) w5 ⟨Nat.le_trans hroom.1 hfr, Nat.le_trans hroom.2 hlo⟩, w4, hts _ w1⟩ hpre rfl rfl (hl.1.trans hml) rfl (lv_room hcat) hd ⟨Nat.le_trans hk hkc, Nat.le_trans hs hks⟩
  refine va_callv hrun hS (fun z _ h => hFc z h) hFc (fun ad t H1 locs1 ht hvm hw hB hz1 hk1 hS1 => ?_)
  obtain ⟨hP1, hD1⟩ := hB
  rw [ht] at hP1
  obtain ⟨hP2, hD2⟩ := va_join (wc := [(q, .inr (ci, d0))]) (wr := V) (w1 := bk ad) hP hD [V.length] (List.range V.length) (co_isC V _) (co_isR V _) (co_nd_range _) (fun i hi hi2 => by
    rw [List.mem_singleton.mp hi2] at hi
    exact Nat.lt_irrefl _ (List.mem_range.mp hi)) hk1 hFc hP1 hD1
  exact kk ad hw H1 locs1 ls hP2 hD2 hS1 hl
end CALL
theorem co_met {l : Launch} {c3 : Nat → ClassId} {D : va_G} {y : MethodName} {cc : ByteArray} {own : String} {nL fr lo kc ks ci r : Nat} {d0 : List Value} {bk : (Nat → Nat) → va_W} (hy : plainName y.cls = true) (hown : y.cls = own) (hnm : y.name = "<init>") (hlen : 1 ≤ nL)
    (hb : ∀ (x : co_X) (h0 : Nat), co_l x = l → co_c3 x = c3 → co_G x = D → co_OK x cc own nL fr lo kc ks → co_I x →
      (∀ (pc : Nat) (L : List (Nat × Value)) (ad : Nat → Nat) (V : va_W) (k n : Nat), decode cc pc = .ok (.return_, 1) → V = bk ad → ad r = h0 → k ≤ kc → n ≤ ks → co_N x pc L [] V k n) → co_N x 0 [(0, .ref h0)] [] [(h0, .inr (ci, d0))] 0 0) : co_C l c3 D y cc nL fr lo kc ks ci d0 bk r := by
  intro h0 sz
  refine Met.ofW (cc := cc) (maxL := nL) (ret := none) hy rfl ?_
  intro p e s m args below meth c s₁ B hml hv
  obtain ⟨rfl, hsz, hP, hK, hNW⟩ := hv
  have hts := atoms_spec (ws := .code y cc nL none :: bo_tb) B.pre
  have hown' : s.vm.findClass own = some m.cls := hown ▸ findClass_of_methodNamed B.named
  have hin : meth.name = "<init>" := (name_of_methodNamed B.named B.method).1.trans hnm
  have hl := lv_entry [.ref h0] (n := nL) hlen
  have hr := B.returns
  have hlocks := B.notSynchronized
  subst hsz
  rw [lg_entry_eq]
  have hD : va_D (va_A [(h0, .inr (ci, d0))] s.heap.size) [(h0, (.inr (ci, d0) : va_E))] := by
    refine ⟨fun i j p q h1 h2 _ => ?_, fun k q hk => va_A.in hk⟩
    have i1 : i < 1 := (List.getElem?_eq_some_iff.mp h1).1
    have i2 : j < 1 := (List.getElem?_eq_some_iff.mp h2).1
    omega
  refine hb (p, l, e, co_rm fr lo kc ks, s, m, [Value.ref h0].toArray, below, meth, c, c3, D, va_A [(h0, .inr (ci, d0))] s.heap.size, MQ below (va_Qv (fun ad : Nat → Nat => ad r = h0) (fun ad t => va_P D bo_cl (bk ad) t.heap ∧ va_D (va_A [(h0, .inr (ci, d0))] s.heap.size) (bk ad)) (va_A [(h0, .inr (ci, d0))] s.heap.size)) [Value.ref h0].toArray s kc ks (va_A [(h0, .inr (ci, d0))] s.heap.size)) h0 rfl rfl rfl ⟨B.exec, B.bytes, hml, hown', fun w hw => hts w (List.mem_cons_of_mem _ hw), hK, hNW, fun q h => Or.inr h, Nat.le_refl _, Nat.le_refl _, Nat.le_refl _, Nat.le_refl _⟩ hin ?_ s.heap [] _ hP hD va_S.rf (by rw [hml]; exact hl)
  intro pc L ad V k n hd hV hr0 hk hn H locs ls hP1 hD1 hS1 hl1
  subst hV
  refine W.widen hk hn ?_
  exact W.vret B.exec B.bytes hr (fun t ht hW => ⟨⟨ad, rfl, hr0, by rw [ht]; exact hP1, hD1⟩, hS1.F ht⟩) hS1.2.2 hd hlocks
end CON
