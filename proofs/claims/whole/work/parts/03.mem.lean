/-! ONE MEMORY: object n, place k. Its cells at the addresses of g; what a method's row does to it. -/
abbrev bo_M : Type := Nat → Nat → Int32
def bo_up (σ : bo_M) (o k : Nat) (v : Int32) : bo_M := fun a => if a = o then upd (σ o) k v else σ a
abbrev bo_cl : List vw_C := [(RX0, TX0, 3), (RX1, TX1, 1), (RX2, TX2, 10), (RX3, TX3, 3), (RX4, TX4, 15), (RX5, TX5, 6), (RX6, TX6, 2), (RX7, TX7, 6), (RX9, TX9, 2), (RX10, TX10, 12), (RX11, TX11, 54)]
abbrev bo_G : Type := (Nat → ClassId) × va_G × (Nat → Nat)
abbrev bo_tys (c3 : Nat → ClassId) : List (ClassId × FieldType) := [(c3 0, .int), (c3 1, .boolean), (c3 2, .object "BellRope$Evening")]
abbrev bo_Lay : Type := (Nat × Nat) ⊕ (Nat × List (Nat × Nat))
abbrev bo_LEv : List (Nat × Nat) := [(2,1),(2,2),(2,3),(2,4),(0,0),(0,0),(0,0),(0,0),(0,0),(0,0)]
abbrev bo_LInn : List (Nat × Nat) := [(2,1),(2,2),(2,3),(2,4),(2,5),(2,6),(2,7),(1,0),(0,0),(0,0),(0,0),(0,0),(0,0),(0,0),(0,0)]
abbrev bo_LIm : List (Nat × Nat) := [(2,1),(0,0),(1,0)]
abbrev bo_LTop : List (Nat × Nat) := [(2,1),(2,50),(2,3),(2,5),(2,11),(2,17),(2,24),(2,29),(2,32),(3,0),(3,0),(0,0)]
abbrev bo_LRead : List (Nat × Nat) := [(2,1),(0,0),(0,0),(0,0),(0,0),(0,0)]
abbrev bo_LPast : List (Nat × Nat) := [(2,1),(0,0)]
abbrev bo_LTri : List (Nat × Nat) := [(2,1),(2,6)]
abbrev bo_LKno : List (Nat × Nat) := [(2,1),(2,2),(2,3),(2,4),(0,0),(0,0)]
abbrev bo_LBook : List (Nat × Nat) := [(2,1),(2,2),(0,0)]
abbrev bo_LCha : List (Nat × Nat) := [(2,1)]
abbrev bo_LMod : List (Nat × Nat) := [(1,0),(0,0),(0,0),(0,0),(0,0),(2,1),(2,2),(2,3),(0,0),(2,4),(2,5),(0,0),(2,6),(2,7),(0,0),(2,8),(2,9),(0,0),(2,10),(0,0),(0,0),(0,0),(0,0),(0,0),(1,0),(2,11),(0,0),(2,12),(2,13),(2,14),(0,0),(2,15),(2,16),(0,0),(2,17),(2,18),(0,0),(2,19),(0,0),(2,20),(2,21),(2,22),(2,23),(2,24),(0,0),(2,25),(2,26),(2,27),(2,28),(0,0),(2,29),(2,30),(2,31),(2,32)]
def bo_evL : List bo_Lay := [.inr (2, bo_LEv), .inl (0,7), .inl (0,7), .inl (0,40), .inl (0,40)]
def bo_innL : List bo_Lay := [.inr (4, bo_LInn), .inl (0,7), .inl (0,7), .inl (0,7), .inl (0,6), .inl (0,6), .inl (0,5), .inl (0,96)]
def bo_ev4 : List bo_Lay := bo_evL ++ (bo_evL ++ (bo_evL ++ bo_evL))
def bo_lays : List bo_Lay :=
  [.inr (9, bo_LTop), .inr (7, bo_LRead), .inl (0,240), .inr (6, bo_LPast), .inl (2,16), .inr (3, bo_LIm)] ++ (bo_evL ++ ([.inr (3, bo_LIm)] ++ (bo_evL ++ ([.inr (8, bo_LTri)] ++ (bo_evL ++
  ([.inl (0,192), .inr (5, bo_LKno), .inl (0,6), .inl (0,6), .inl (0,128), .inl (0,17), .inr (0, bo_LBook), .inl (0,15), .inl (0,15), .inr (1, bo_LCha), .inl (0,8)] ++ (bo_innL ++ (bo_innL ++ (bo_evL ++ (bo_ev4 ++ (bo_ev4 ++ (bo_ev4 ++ (bo_ev4 ++
  [.inr (10, bo_LMod), .inl (0,7), .inl (0,7), .inl (0,7), .inl (0,4), .inl (0,4), .inl (0,6), .inl (0,6), .inl (0,5), .inl (0,107), .inl (0,240), .inl (0,3), .inl (0,7), .inl (0,7), .inl (0,7), .inl (0,4), .inl (0,4), .inl (0,6), .inl (0,6), .inl (0,5), .inl (0,1712), .inl (0,107), .inl (0,192), .inl (0,192), .inl (0,8), .inl (0,6), .inl (0,6), .inl (1,128), .inl (0,20), .inl (0,15), .inl (0,15), .inl (0,216), .inl (1,2)])))))))))))))
def bo_lay (n : Nat) : bo_Lay := bo_lays.getD n (.inl (0,0))
theorem bo_lays_len : bo_lays.length = 168 := by decide +kernel
/-- the INN and the evening that a number in the memory names -/
def bo_inn (x : Int32) : Nat := if x = 0 then 34 else 42
def bo_ev (x : Int32) : Nat := 55 + 5 * (x.toNatClampNeg % 16)
def bo_isInn (i : Nat) : Prop := i = 34 ∨ i = 42
def bo_isEv (e : Nat) : Prop := e = 6 ∨ e = 12 ∨ e = 18 ∨ ∃ j, j < 17 ∧ e = 50 + 5 * j
def bo_isIm (i : Nat) : Prop := i = 5 ∨ i = 11
/-- an array of ints of that length -/
def bo_isA (o n : Nat) : Prop := o < 168 ∧ bo_lay o = .inl (0, n)
def bo_isO (o ci : Nat) (ts : List (Nat × Nat)) : Prop := o < 168 ∧ bo_lay o = .inr (ci, ts)
theorem bo_inn_ok (x : Int32) : bo_isInn (bo_inn x) := by unfold bo_inn bo_isInn; split <;> simp
theorem bo_ev_ok (x : Int32) : bo_isEv (bo_ev x) := Or.inr (Or.inr (Or.inr ⟨x.toNatClampNeg % 16 + 1, by omega, by unfold bo_ev; omega⟩))
theorem bo_isInn.o {i : Nat} (h : bo_isInn i) : bo_isO i 4 bo_LInn := by rcases h with rfl | rfl <;> exact ⟨by decide, by decide +kernel⟩
theorem bo_isInn.a1 {i : Nat} (h : bo_isInn i) : bo_isA (i + 1) 7 := by rcases h with rfl | rfl <;> exact ⟨by decide, by decide +kernel⟩
theorem bo_isInn.a2 {i : Nat} (h : bo_isInn i) : bo_isA (i + 2) 7 := by rcases h with rfl | rfl <;> exact ⟨by decide, by decide +kernel⟩
theorem bo_isInn.a3 {i : Nat} (h : bo_isInn i) : bo_isA (i + 3) 7 := by rcases h with rfl | rfl <;> exact ⟨by decide, by decide +kernel⟩
theorem bo_isInn.a4 {i : Nat} (h : bo_isInn i) : bo_isA (i + 4) 6 := by rcases h with rfl | rfl <;> exact ⟨by decide, by decide +kernel⟩
theorem bo_isInn.a5 {i : Nat} (h : bo_isInn i) : bo_isA (i + 5) 6 := by rcases h with rfl | rfl <;> exact ⟨by decide, by decide +kernel⟩
theorem bo_isInn.a6 {i : Nat} (h : bo_isInn i) : bo_isA (i + 6) 5 := by rcases h with rfl | rfl <;> exact ⟨by decide, by decide +kernel⟩
theorem bo_isInn.a7 {i : Nat} (h : bo_isInn i) : bo_isA (i + 7) 96 := by rcases h with rfl | rfl <;> exact ⟨by decide, by decide +kernel⟩
theorem bo_ev_all (j : Nat) (hj : j < 17) : bo_isO (50 + 5 * j) 2 bo_LEv ∧ bo_isA (50 + 5 * j + 1) 7 ∧ bo_isA (50 + 5 * j + 2) 7 ∧ bo_isA (50 + 5 * j + 3) 40 ∧ bo_isA (50 + 5 * j + 4) 40 := by
  have h : j = 0 ∨ j = 1 ∨ j = 2 ∨ j = 3 ∨ j = 4 ∨ j = 5 ∨ j = 6 ∨ j = 7 ∨ j = 8 ∨ j = 9 ∨ j = 10 ∨ j = 11 ∨ j = 12 ∨ j = 13 ∨ j = 14 ∨ j = 15 ∨ j = 16 := by omega
  rcases h with rfl | rfl | rfl | rfl | rfl | rfl | rfl | rfl | rfl | rfl | rfl | rfl | rfl | rfl | rfl | rfl | rfl <;> exact ⟨⟨by decide, by decide +kernel⟩, ⟨by decide, by decide +kernel⟩, ⟨by decide, by decide +kernel⟩, ⟨by decide, by decide +kernel⟩, ⟨by decide, by decide +kernel⟩⟩
theorem bo_isEv.all {e : Nat} (h : bo_isEv e) : bo_isO e 2 bo_LEv ∧ bo_isA (e + 1) 7 ∧ bo_isA (e + 2) 7 ∧ bo_isA (e + 3) 40 ∧ bo_isA (e + 4) 40 := by
  rcases h with rfl | rfl | rfl | ⟨j, hj, rfl⟩
  · exact ⟨⟨by decide, by decide +kernel⟩, ⟨by decide, by decide +kernel⟩, ⟨by decide, by decide +kernel⟩, ⟨by decide, by decide +kernel⟩, ⟨by decide, by decide +kernel⟩⟩
  · exact ⟨⟨by decide, by decide +kernel⟩, ⟨by decide, by decide +kernel⟩, ⟨by decide, by decide +kernel⟩, ⟨by decide, by decide +kernel⟩, ⟨by decide, by decide +kernel⟩⟩
  · exact ⟨⟨by decide, by decide +kernel⟩, ⟨by decide, by decide +kernel⟩, ⟨by decide, by decide +kernel⟩, ⟨by decide, by decide +kernel⟩, ⟨by decide, by decide +kernel⟩⟩
  · exact bo_ev_all j hj
theorem bo_isEv.o {e : Nat} (h : bo_isEv e) : bo_isO e 2 bo_LEv := h.all.1
theorem bo_isEv.a1 {e : Nat} (h : bo_isEv e) : bo_isA (e + 1) 7 := h.all.2.1
theorem bo_isEv.a2 {e : Nat} (h : bo_isEv e) : bo_isA (e + 2) 7 := h.all.2.2.1
theorem bo_isEv.a3 {e : Nat} (h : bo_isEv e) : bo_isA (e + 3) 40 := h.all.2.2.2.1
theorem bo_isEv.a4 {e : Nat} (h : bo_isEv e) : bo_isA (e + 4) 40 := h.all.2.2.2.2
theorem bo_isIm.o {i : Nat} (h : bo_isIm i) : bo_isO i 3 bo_LIm := by rcases h with rfl | rfl <;> exact ⟨by decide, by decide +kernel⟩
theorem bo_isIm.ev {i : Nat} (h : bo_isIm i) : bo_isEv (i + 1) := by rcases h with rfl | rfl; exact Or.inl rfl; exact Or.inr (Or.inl rfl)
def bo_im (c : Int32) : Nat := if c = 0 then 5 else 11
theorem bo_im_ok (c : Int32) : bo_isIm (bo_im c) := by unfold bo_im bo_isIm; split <;> simp
theorem bo_im5 : bo_isIm 5 := Or.inl rfl
theorem bo_im11 : bo_isIm 11 := Or.inr rfl
theorem bo_ev18 : bo_isEv 18 := Or.inr (Or.inr (Or.inl rfl))
theorem bo_ev50 : bo_isEv 50 := Or.inr (Or.inr (Or.inr ⟨0, by decide, rfl⟩))
/-! the world -/
def bo_fv (ad : Nat → Nat) (n : Nat) (f : Nat → Int32) (k : Nat) (t : Nat × Nat) : Value := match t.1 with
  | 0 => .int (f k)
  | 1 => .int (f k &&& 1)
  | 2 => .ref (ad (n + t.2))
  | _ => .ref (ad (bo_inn (f k)))
def bo_fvs (ad : Nat → Nat) (n : Nat) (f : Nat → Int32) : Nat → List (Nat × Nat) → List Value
  | _, [] => []
  | k, t :: ts => bo_fv ad n f k t :: bo_fvs ad n f (k + 1) ts
def bo_cell (g : bo_G) (n : Nat) (f : Nat → Int32) (L : bo_Lay) : va_E := match L with
  | .inl (0, len) => .inl (g.1 0, len, .inl f)
  | .inl (1, len) => .inl (g.1 1, len, .inl f)
  | .inl (_, len) => .inl (g.1 2, len, .inr (.inr (.inr (.inr (fun k => some (g.2.2 (bo_ev (f k))))))))
  | .inr (ci, ts) => .inr (ci, bo_fvs g.2.2 n f 0 ts)
def bo_ws (g : bo_G) (σ : bo_M) : va_W := (List.range 168).map fun n => (g.2.2 n, bo_cell g n (σ n) (bo_lay n))
def bo_inj (g : bo_G) : Prop := ∀ i j, i < 168 → j < 168 → g.2.2 i = g.2.2 j → i = j
theorem bo_ws_get {g : bo_G} {σ : bo_M} {n : Nat} (h : n < 168) : (bo_ws g σ)[n]? = some (g.2.2 n, bo_cell g n (σ n) (bo_lay n)) := by
  unfold bo_ws
  rw [List.getElem?_map, List.getElem?_range h]
  rfl
theorem bo_ws_len {g : bo_G} {σ : bo_M} : (bo_ws g σ).length = 168 := by unfold bo_ws; simp
theorem bo_ws_set {g : bo_G} {σ : bo_M} {n k : Nat} {v : Int32} {e : va_E} (h : n < 168) (he : bo_cell g n (upd (σ n) k v) (bo_lay n) = e) : (bo_ws g σ).set n (g.2.2 n, e) = bo_ws g (bo_up σ n k v) := by
  apply List.ext_getElem?
  intro j
  by_cases hj : j < 168
  · by_cases hn : j = n
    · subst hn
      rw [List.getElem?_set_self (by rw [bo_ws_len]; exact hj), bo_ws_get hj, ← he]
      simp [bo_up]
    · rw [List.getElem?_set_ne (Ne.symm hn), bo_ws_get hj, bo_ws_get hj]
      simp [bo_up, hn]
  · rw [List.getElem?_eq_none (by rw [List.length_set, bo_ws_len]; omega), List.getElem?_eq_none (by rw [bo_ws_len]; omega)]
def bo_A (g : bo_G) : Nat → Prop := fun q => ∃ n, n < 168 ∧ q = g.2.2 n
theorem bo_ws_D {g : bo_G} {σ : bo_M} {A : Nat → Prop} (hi : bo_inj g) (hA : ∀ n, n < 168 → A (g.2.2 n)) : va_D A (bo_ws g σ) := by
  have key : ∀ (k : Nat) (q : Nat × va_E), (bo_ws g σ)[k]? = some q → k < 168 ∧ q.1 = g.2.2 k := by
    intro k q hk
    have hl : k < 168 := by
      have := (List.getElem?_eq_some_iff.mp hk).1
      rwa [bo_ws_len] at this
    rw [bo_ws_get hl] at hk
    cases hk
    exact ⟨hl, rfl⟩
  refine ⟨fun i j p q h1 h2 h3 => ?_, fun k q h => ?_⟩
  · obtain ⟨a1, a2⟩ := key i p h1
    obtain ⟨b1, b2⟩ := key j q h2
    exact hi i j a1 b1 (by rw [← a2, ← b2]; exact h3)
  · obtain ⟨a1, a2⟩ := key k q h
    rw [a2]
    exact hA k a1
def bo_tb : List Cond := lw_tbl.filter goodWord
theorem bo_tb_in {w : Cond} (h : w ∈ bo_tb) : w ∈ lw_tbl := (List.mem_filter.mp h).1
theorem bo_mem {w : Cond} (i : Nat) (h : lw_tbl[i]? = some w) (hg : goodWord w = true) : w ∈ bo_tb := List.mem_filter.mpr ⟨List.mem_of_getElem? h, hg⟩
theorem bo_goodIn {ws : List Cond} (h : ∀ w ∈ ws, w ∈ bo_tb) : GoodIn bo_tb ws := fun w hw => ⟨h w hw, good_of_word (List.mem_filter.mp (h w hw)).2⟩
/-- links to private members of a nest mate: they ride in the world -/
def bo_nests : List (String × Nat × MethodName) := [(RX2, 68, yX10_bit), (RX10, 9, yX7_init), (RX10, 18, yX2_init), (RX6, 17, yX2_init), (RX10, 32, yX3_init), (RX3, 9, yX2_init), (RX10, 42, yX9_init), (RX9, 11, yX2_init), (RX10, 49, yX5_init), (RX10, 56, yX0_init), (RX10, 63, yX1_init), (RX10, 70, yX4_init)]
def bo_NW (U : State) : Prop := ∀ q ∈ bo_nests, va_Nw (.methodLinkNest q.1 q.2.1 q.2.2 "BellRope") U
theorem bo_NW.warm {s U : State} (hW : s.WarmedH U.vm) (h : bo_NW s) : bo_NW U := fun q hq => va_Nw.warmM hW (h q hq)
theorem bo_NW.same {u U : State} (e : u.vm = U.vm) (h : bo_NW u) : bo_NW U := fun q hq => va_Nw.same rfl e (h q hq)
/-- what a method of a finished world starts with and ends with -/
def bo_Pre (g : bo_G) (σ : bo_M) : State → Prop := fun U => va_P g.2.1 bo_cl (bo_ws g σ) U.heap ∧ va_K g.2.1 bo_cl (bo_tys g.1) U ∧ bo_NW U
/-! the walk -/
abbrev bo_X : Type := Program × Launch × Env × Room × State × MethodId × Array Value × List Frame × Method × Code × bo_G × (Nat → Prop) × Nat × Nat × (State → Prop)
def bo_l (x : bo_X) : Launch := x.2.1
def bo_g (x : bo_X) : bo_G := x.2.2.2.2.2.2.2.2.2.2.1
abbrev bo_a (x : bo_X) (n : Nat) : Nat := (bo_g x).2.2 n
def bo_N (x : bo_X) (pc : Nat) (L : List (Nat × Value)) (S : List Value) (σ : bo_M) : Prop := match x with
  | (p, l, e, R, s, m, args, below, meth, c, g, A, cells, slots, Q) => ∀ (H : Heap) (locs : List Loc) (ls : Array Slot), va_P g.2.1 bo_cl (bo_ws g σ) H → va_S A s.heap H locs → lv_has ls c.maxLocals L → W p l e R s m args below meth c H locs cells slots Q (F0 m pc ls S)
def bo_OK (x : bo_X) (cc : ByteArray) (own : String) (nL fr lo : Nat) : Prop := match x with
  | (p, l, e, R, s, m, args, below, meth, c, g, A, cells, slots, Q) => p.tables.exec = Jvm.exec ∧ c.code = cc ∧ c.maxLocals = nL ∧ s.vm.findClass own = some m.cls ∧ (∀ w ∈ bo_tb, w.before args s = true) ∧ va_K g.2.1 bo_cl (bo_tys g.1) s ∧ bo_NW s ∧ bo_inj g ∧ (∀ n, n < 168 → A (g.2.2 n)) ∧ fr ≤ R.frames ∧ lo ≤ R.locals ∧ cells ≤ R.cells ∧ slots ≤ R.slots
/-- if the function M answers a, and from what k says of a it goes on, then it goes on from here -/
def bo_D {α : Type} (x : bo_X) (pc : Nat) (L : List (Nat × Value)) (S : List Value) (σ : bo_M) (M : Option α) (k : α → Prop) : Prop := ∀ a, M = some a → k a → bo_N x pc L S σ
def bo_B (v : Int32) : Prop := v = 0 ∨ v = 1
theorem bo_b1 (v : Int32) : bo_B (v &&& 1) := by
  unfold bo_B
  have h : (v &&& 1).toBitVec = 0#32 ∨ (v &&& 1).toBitVec = 1#32 := by
    rw [Int32.toBitVec_and]
    have : (1 : Int32).toBitVec = 1#32 := by decide
    rw [this]
    rcases Nat.mod_two_eq_zero_or_one v.toBitVec.toNat with h | h
    · left
      apply BitVec.eq_of_toNat_eq
      rw [BitVec.toNat_and]
      show v.toBitVec.toNat &&& 1 = 0
      rw [Nat.and_one_is_mod, h]
    · right
      apply BitVec.eq_of_toNat_eq
      rw [BitVec.toNat_and]
      show v.toBitVec.toNat &&& 1 = 1
      rw [Nat.and_one_is_mod, h]
  rcases h with h | h
  · left; exact Int32.toBitVec_inj.mp (by rw [h]; decide)
  · right; exact Int32.toBitVec_inj.mp (by rw [h]; decide)
theorem bo_B.and {v : Int32} (h : bo_B v) : v &&& 1 = v := by rcases h with rfl | rfl <;> decide
theorem bo_B.fit {v : Int32} (h : bo_B v) : fits .boolean (.int v) = true := by rcases h with rfl | rfl <;> decide
theorem bo_b_0 : bo_B 0 := Or.inl rfl
theorem bo_b_1 : bo_B 1 := Or.inr rfl
theorem bo_bind {α β : Type} {M : Option α} {K : α → Option β} {b : β} (h : M.bind K = some b) : ∃ a, M = some a ∧ K a = some b := by
  cases M with
  | none => cases h
  | some a => exact ⟨a, rfl, h⟩
