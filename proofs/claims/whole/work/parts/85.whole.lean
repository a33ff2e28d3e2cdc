/-! THE CLAIM OUT OF ONE WALK OF THE LAW'S BODY. Your part is whole_start (and what it stands on); all else here is the same for every law, but numbers. -/
def R_law : String := "BellRopeLaw"
def lw_P (b : Addr) (xs : List Int32) (args : Array Value) (s : State) : Prop := args = #[.ref b] ∧ s.IntsAt b xs ∧ xs.length ≤ 192 ∧ (Jvm.Cond.and given_1 narrow_1).before args s = true
def lw_Q (_ : Array Value) (s : State) (o : Outcome) (t : State) : Prop := o = .returned (some (.int 1)) ∧ Framed s o t [] 600000 7302250
def lw_Z (below : List Frame) (a : Array Value) (s : State) : State → Prop := fun t => ∃ o, t.status = .running ∧ Ended t below o ∧ lw_Q a s o t
/-- the law's own end, with 1 on the stack, nothing written that was there before, its room as the claim has it -/
theorem lw_ret {p : Program} {l : Launch} {e : Env} {s : State} {m : MethodId} {below : List Frame} {meth : Method} {c : Code} {b : Nat} (hx : p.tables.exec = Jvm.exec) (hb : c.code = code) (hr : meth.sig.returnType = ret) (hlocks : meth.locks = false) {pc : Nat} {H : Heap} {ls : Array Slot} (hdg : decode code pc = .ok (.ireturn, 1)) : W p l e room_1 s m #[Value.ref b] below meth c H [] 600000 7302250 (lw_Z below #[Value.ref b] s) (F0 m pc ls [.int 1]) := by
  intro T hT X
  obtain ⟨fs, hret, hrun, hended, hW, hframe⟩ := X.leave (v := some (.int 1)) (hlocks := hlocks) (fun h => by rw [hr] at h; cases h)
  have hmeth' : T.vm.method? m = some meth := X.method'
  refine ⟨T.setFrames fs, ?_, .returned (some (.int 1)), hrun, hended, rfl, ⟨_, rfl⟩, hW, hframe⟩
  jvm_step X.here [X.here.top, hx, hb, hdg, hmeth', hr, ret, narrow_b1]
  (try refine ⟨rfl, ?_⟩); (try refine ⟨rfl, ?_⟩)
  first | (intro acts; rw [hret _ acts rfl rfl rfl]) | rw [hret _ _ rfl rfl rfl]
  exact Steps.refl _
/-- what holds at the law's entry: the machine, the code, the tables' words (any of lw_tbl by 'hts w (by decide +kernel)'), the script of L ints xs at the cell b, what the Statement gives of the start (any of its parts by flat_of_before) -/
def lw_At (p : Program) (s : State) (m : MethodId) (meth : Method) (c : Code) (b L : Nat) (xs : Nat → Int32) : Prop :=
  p.tables.exec = Jvm.exec ∧ c.code = code ∧ meth.sig.returnType = ret ∧ c.maxLocals = 4 ∧ s.vm.findClass R_law = some m.cls ∧ (∀ w ∈ lw_tbl, w.before #[Value.ref b] s = true) ∧ va_X b L xs s s.heap ∧ b < s.heap.size ∧ meth.locks = false ∧ (Jvm.Cond.and given_1 narrow_1).before #[Value.ref b] s = true
set_option maxHeartbeats 4000000 in
set_option maxRecDepth 100000 in
theorem whole_start {p : Program} {e : Env} {s : State} {m : MethodId} {below : List Frame} {meth : Method} {c : Code} (l : Launch) (hflags : l.flags = flags0) {b L : Nat} {xs : Nat → Int32} (hL : L ≤ 192) (C0 : lw_At p s m meth c b L xs) : W p l e room_1 s m #[Value.ref b] below meth c s.heap [] 0 0 (lw_Z below #[Value.ref b] s) (entryFrame m ([Value.ref b] : List Value).toArray 4) := by
  obtain ⟨hx, hb, hr, hml, hown, hts, hX, hbl, hlocks, hgv⟩ := C0
  have htb : ∀ w ∈ bo_tb, w.before #[Value.ref b] s = true := fun w hw => hts w (bo_tb_in hw)
  obtain ⟨c3, D, hK, hNW⟩ := st_known hts
  have hO : co_OK (p, l, e, room_1, s, m, #[Value.ref b], below, meth, c, c3, D, fun q => s.heap.size ≤ q, lw_Z below #[Value.ref b] s) cL "BellRopeLaw" 4 9 320 600000 7302250 := ⟨hx, hb, hml, hown, htb, hK, hNW, fun _ h => h, Nat.le_refl _, Nat.le_refl _, Nat.le_refl _, Nat.le_refl _⟩
  have key : co_N (p, l, e, room_1, s, m, #[Value.ref b], below, meth, c, c3, D, fun q => s.heap.size ≤ q, lw_Z below #[Value.ref b] s) 0 [(0, .ref b)] [] [] 0 0 := by
    refine co_new (ci := 9) hO dL_0 in_X10 tyX10 tyX10_ok clL_7 isX10 iiX10 rfl dfX10 (Nat.le_of_ble_eq_true rfl) (Nat.le_of_ble_eq_true rfl) (fun q => ?_)
    refine co_dup hO dL_3 ?_
    refine co_call hO dL_4 mIX10 (Or.inl mlL_9) (kIX10 _ _ _) (by decide) (Nat.le_of_ble_eq_true rfl) (Nat.le_of_ble_eq_true rfl) (Nat.le_of_ble_eq_true rfl) (fun adA hA => ?_)
    subst hA
    refine co_astore (L' := [(1, .ref (adA 0)), (0, .ref b)]) hO dL_7 rfl (by decide) rfl ?_
    refine co_new (ci := 10) hO dL_8 in_X11 tyX11 tyX11_ok clL_10 isX11 iiX11 rfl dfX11 (Nat.le_of_ble_eq_true rfl) (Nat.le_of_ble_eq_true rfl) (fun q => ?_)
    refine co_dup hO dL_11 ?_
    refine co_call hO dL_12 mIX11 (Or.inl mlL_12) (kIX11 _ _ _) (by decide) (Nat.le_of_ble_eq_true rfl) (Nat.le_of_ble_eq_true rfl) (Nat.le_of_ble_eq_true rfl) (fun adB hB => ?_)
    subst hB
    refine co_astore (L' := [(2, .ref (adB 135)), (1, .ref (adA 0)), (0, .ref b)]) hO dL_15 rfl (by decide) rfl ?_
    refine co_iconst (v := 0) hO dL_16 (by decide) ?_
    refine co_istore (L' := [(3, .int 0), (2, .ref (adB 135)), (1, .ref (adA 0)), (0, .ref b)]) hO dL_17 rfl (by decide) rfl ?_
    intro H locs ls hP hD hS hl
    have hP : va_P D bo_cl (co_W c3 D (0 :: co_topI) adA ++ co_W c3 D co_modI adB) H := hP
    have hD : va_D (fun q => s.heap.size ≤ q) (co_W c3 D (0 :: co_topI) adA ++ co_W c3 D co_modI adB) := hD
    have hl : lv_has ls c.maxLocals [(3, .int 0), (2, .ref (adB 135)), (1, .ref (adA 0)), (0, .ref b)] := hl
    rw [st_join] at hP hD
    obtain ⟨ad, hAd⟩ : ∃ z : Nat → Nat, z = fun n => if n < 135 then adA n else adB n := ⟨_, rfl⟩
    have h0 : ad 0 = adA 0 := by rw [hAd]; rfl
    have h135 : ad 135 = adB 135 := by rw [hAd]; rfl
    rw [← hAd] at hP hD
    rw [← h0, ← h135] at hl
    refine W.widen (k := 600000) (n := 7302250) (Nat.le_of_ble_eq_true rfl) (Nat.le_of_ble_eq_true rfl) ?_
    have hB : bo_OK (p, l, e, room_1, s, m, #[Value.ref b], below, meth, c, (c3, D, ad), fun q => s.heap.size ≤ q, 600000, 7302250, lw_Z below #[Value.ref b] s) cL "BellRopeLaw" 4 9 320 := ⟨hx, hb, hml, hown, htb, hK, hNW.1, st_inj hD, st_A hD, Nat.le_refl _, Nat.le_refl _, Nat.le_refl _, Nat.le_refl _⟩
    have hs : sc (p, l, e, room_1, s, m, #[Value.ref b], below, meth, c, (c3, D, ad), fun q => s.heap.size ≤ q, 600000, 7302250, lw_Z below #[Value.ref b] s) b L xs := ⟨hX, hbl, Nat.not_le.mpr hbl⟩
    have hfin : ∀ (L0 : List (Nat × Value)) (σ : bo_M), bo_N (p, l, e, room_1, s, m, #[Value.ref b], below, meth, c, (c3, D, ad), fun q => s.heap.size ≤ q, 600000, 7302250, lw_Z below #[Value.ref b] s) 1186 L0 [.int 1] σ := fun L0 σ H1 locs1 ls1 hP1 hS1 hl1 => va_forget hS1.2.2 (lw_ret hx hb hr hlocks dL_1186)
    exact lw_loop hB hs hL hfin 64 0 in_s0 (by omega) (by omega) in_first H locs ls (st_P hP) hS hl
  have hl := lv_entry [.ref b] (n := 4) (Nat.le_of_ble_eq_true rfl)
  rw [lg_entry_eq]
  exact key s.heap [] _ (fun k q h => by simp at h) ⟨fun i j p q h => by simp at h, fun k q h => by simp at h⟩ va_S.rf (by rw [hml]; exact hl)
