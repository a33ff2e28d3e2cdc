/-! the rows of the machine over the one memory -/
section BO
variable {x : bo_X} {cc : ByteArray} {own : String} {nL fr lo : Nat} {pc : Nat} {L : List (Nat × Value)} {S : List Value} {σ : bo_M} {α β : Type} {M M1 M2 : Option α} {k : α → Prop}
theorem bo_iadd (hx : bo_OK x cc own nL fr lo) {a b : Int32} (hd : decode cc pc = .ok (.iadd, 1)) (kk : bo_D x (pc + 1) L (.int (a + b) :: S) σ M k) : bo_D x pc L (.int b :: .int a :: S) σ M k := by
  obtain ⟨p, l, e, R, s, m, args, below, meth, c, g, A, cells, slots, Q⟩ := x
  obtain ⟨hex, hb, hml, hown, hts, hK, hNW, hi, hA, hfr, hlo, hce, hsl⟩ := hx
  intro r h1 h2 H locs ls hP hS hl
  exact lv_iadd hex hb hd (kk r h1 h2 H locs ls hP hS hl)
theorem bo_isub (hx : bo_OK x cc own nL fr lo) {a b : Int32} (hd : decode cc pc = .ok (.isub, 1)) (kk : bo_D x (pc + 1) L (.int (a - b) :: S) σ M k) : bo_D x pc L (.int b :: .int a :: S) σ M k := by
  obtain ⟨p, l, e, R, s, m, args, below, meth, c, g, A, cells, slots, Q⟩ := x
  obtain ⟨hex, hb, hml, hown, hts, hK, hNW, hi, hA, hfr, hlo, hce, hsl⟩ := hx
  intro r h1 h2 H locs ls hP hS hl
  exact lv_isub hex hb hd (kk r h1 h2 H locs ls hP hS hl)
theorem bo_imul (hx : bo_OK x cc own nL fr lo) {a b : Int32} (hd : decode cc pc = .ok (.imul, 1)) (kk : bo_D x (pc + 1) L (.int (a * b) :: S) σ M k) : bo_D x pc L (.int b :: .int a :: S) σ M k := by
  obtain ⟨p, l, e, R, s, m, args, below, meth, c, g, A, cells, slots, Q⟩ := x
  obtain ⟨hex, hb, hml, hown, hts, hK, hNW, hi, hA, hfr, hlo, hce, hsl⟩ := hx
  intro r h1 h2 H locs ls hP hS hl
  exact lv_imul hex hb hd (kk r h1 h2 H locs ls hP hS hl)
theorem bo_iand (hx : bo_OK x cc own nL fr lo) {a b : Int32} (hd : decode cc pc = .ok (.iand, 1)) (kk : bo_D x (pc + 1) L (.int (a &&& b) :: S) σ M k) : bo_D x pc L (.int b :: .int a :: S) σ M k := by
  obtain ⟨p, l, e, R, s, m, args, below, meth, c, g, A, cells, slots, Q⟩ := x
  obtain ⟨hex, hb, hml, hown, hts, hK, hNW, hi, hA, hfr, hlo, hce, hsl⟩ := hx
  intro r h1 h2 H locs ls hP hS hl
  exact lv_iand hex hb hd (kk r h1 h2 H locs ls hP hS hl)
theorem bo_ior (hx : bo_OK x cc own nL fr lo) {a b : Int32} (hd : decode cc pc = .ok (.ior, 1)) (kk : bo_D x (pc + 1) L (.int (a ||| b) :: S) σ M k) : bo_D x pc L (.int b :: .int a :: S) σ M k := by
  obtain ⟨p, l, e, R, s, m, args, below, meth, c, g, A, cells, slots, Q⟩ := x
  obtain ⟨hex, hb, hml, hown, hts, hK, hNW, hi, hA, hfr, hlo, hce, hsl⟩ := hx
  intro r h1 h2 H locs ls hP hS hl
  exact lv_ior hex hb hd (kk r h1 h2 H locs ls hP hS hl)
theorem bo_ixor (hx : bo_OK x cc own nL fr lo) {a b : Int32} (hd : decode cc pc = .ok (.ixor, 1)) (kk : bo_D x (pc + 1) L (.int (a ^^^ b) :: S) σ M k) : bo_D x pc L (.int b :: .int a :: S) σ M k := by
  obtain ⟨p, l, e, R, s, m, args, below, meth, c, g, A, cells, slots, Q⟩ := x
  obtain ⟨hex, hb, hml, hown, hts, hK, hNW, hi, hA, hfr, hlo, hce, hsl⟩ := hx
  intro r h1 h2 H locs ls hP hS hl
  exact lv_ixor hex hb hd (kk r h1 h2 H locs ls hP hS hl)
theorem bo_ishl (hx : bo_OK x cc own nL fr lo) {a b : Int32} (hd : decode cc pc = .ok (.ishl, 1)) (kk : bo_D x (pc + 1) L (.int (a <<< (b &&& 31)) :: S) σ M k) : bo_D x pc L (.int b :: .int a :: S) σ M k := by
  obtain ⟨p, l, e, R, s, m, args, below, meth, c, g, A, cells, slots, Q⟩ := x
  obtain ⟨hex, hb, hml, hown, hts, hK, hNW, hi, hA, hfr, hlo, hce, hsl⟩ := hx
  intro r h1 h2 H locs ls hP hS hl
  exact lv_ishl hex hb hd (kk r h1 h2 H locs ls hP hS hl)
theorem bo_ishr (hx : bo_OK x cc own nL fr lo) {a b : Int32} (hd : decode cc pc = .ok (.ishr, 1)) (kk : bo_D x (pc + 1) L (.int (a >>> (b &&& 31)) :: S) σ M k) : bo_D x pc L (.int b :: .int a :: S) σ M k := by
  obtain ⟨p, l, e, R, s, m, args, below, meth, c, g, A, cells, slots, Q⟩ := x
  obtain ⟨hex, hb, hml, hown, hts, hK, hNW, hi, hA, hfr, hlo, hce, hsl⟩ := hx
  intro r h1 h2 H locs ls hP hS hl
  exact lv_ishr hex hb hd (kk r h1 h2 H locs ls hP hS hl)
theorem bo_iushr (hx : bo_OK x cc own nL fr lo) {a b : Int32} (hd : decode cc pc = .ok (.iushr, 1)) (kk : bo_D x (pc + 1) L (.int ((a.toUInt32 >>> (b.toUInt32 &&& Int32.toUInt32 31)).toInt32) :: S) σ M k) : bo_D x pc L (.int b :: .int a :: S) σ M k := by
  obtain ⟨p, l, e, R, s, m, args, below, meth, c, g, A, cells, slots, Q⟩ := x
  obtain ⟨hex, hb, hml, hown, hts, hK, hNW, hi, hA, hfr, hlo, hce, hsl⟩ := hx
  intro r h1 h2 H locs ls hP hS hl
  exact t_iushr hex hb hd rfl (kk r h1 h2 H locs ls hP hS hl)
theorem bo_ladd (hx : bo_OK x cc own nL fr lo) {a b : Int64} (hd : decode cc pc = .ok (.ladd, 1)) (kk : bo_D x (pc + 1) L (.long (a + b) :: S) σ M k) : bo_D x pc L (.long b :: .long a :: S) σ M k := by
  obtain ⟨p, l, e, R, s, m, args, below, meth, c, g, A, cells, slots, Q⟩ := x
  obtain ⟨hex, hb, hml, hown, hts, hK, hNW, hi, hA, hfr, hlo, hce, hsl⟩ := hx
  intro r h1 h2 H locs ls hP hS hl
  exact lv_ladd hex hb hd (kk r h1 h2 H locs ls hP hS hl)
theorem bo_lmul (hx : bo_OK x cc own nL fr lo) {a b : Int64} (hd : decode cc pc = .ok (.lmul, 1)) (kk : bo_D x (pc + 1) L (.long (a * b) :: S) σ M k) : bo_D x pc L (.long b :: .long a :: S) σ M k := by
  obtain ⟨p, l, e, R, s, m, args, below, meth, c, g, A, cells, slots, Q⟩ := x
  obtain ⟨hex, hb, hml, hown, hts, hK, hNW, hi, hA, hfr, hlo, hce, hsl⟩ := hx
  intro r h1 h2 H locs ls hP hS hl
  exact lv_lmul hex hb hd (kk r h1 h2 H locs ls hP hS hl)
theorem bo_i2l (hx : bo_OK x cc own nL fr lo) {a : Int32} (hd : decode cc pc = .ok (.i2l, 1)) (kk : bo_D x (pc + 1) L (.long a.toInt64 :: S) σ M k) : bo_D x pc L (.int a :: S) σ M k := by
  obtain ⟨p, l, e, R, s, m, args, below, meth, c, g, A, cells, slots, Q⟩ := x
  obtain ⟨hex, hb, hml, hown, hts, hK, hNW, hi, hA, hfr, hlo, hce, hsl⟩ := hx
  intro r h1 h2 H locs ls hP hS hl
  exact lv_i2l hex hb hd rfl (kk r h1 h2 H locs ls hP hS hl)
theorem bo_l2i (hx : bo_OK x cc own nL fr lo) {a : Int64} (hd : decode cc pc = .ok (.l2i, 1)) (kk : bo_D x (pc + 1) L (.int a.toInt32 :: S) σ M k) : bo_D x pc L (.long a :: S) σ M k := by
  obtain ⟨p, l, e, R, s, m, args, below, meth, c, g, A, cells, slots, Q⟩ := x
  obtain ⟨hex, hb, hml, hown, hts, hK, hNW, hi, hA, hfr, hlo, hce, hsl⟩ := hx
  intro r h1 h2 H locs ls hP hS hl
  exact lv_l2i hex hb hd rfl (kk r h1 h2 H locs ls hP hS hl)
theorem bo_lcmp (hx : bo_OK x cc own nL fr lo) {a b : Int64} (hd : decode cc pc = .ok (.lcmp, 1)) (kk : bo_D x (pc + 1) L (.int (lg_cmp a b) :: S) σ M k) : bo_D x pc L (.long b :: .long a :: S) σ M k := by
  obtain ⟨p, l, e, R, s, m, args, below, meth, c, g, A, cells, slots, Q⟩ := x
  obtain ⟨hex, hb, hml, hown, hts, hK, hNW, hi, hA, hfr, hlo, hce, hsl⟩ := hx
  intro r h1 h2 H locs ls hP hS hl
  exact W.lcmp hex hb hd (kk r h1 h2 H locs ls hP hS hl)
theorem bo_iconst (hx : bo_OK x cc own nL fr lo) {n : Int} {v : Int32} (hd : decode cc pc = .ok (.iconst n, 1)) (hv : Int32.ofInt n = v) (kk : bo_D x (pc + 1) L (.int v :: S) σ M k) : bo_D x pc L (S) σ M k := by
  obtain ⟨p, l, e, R, s, m, args, below, meth, c, g, A, cells, slots, Q⟩ := x
  obtain ⟨hex, hb, hml, hown, hts, hK, hNW, hi, hA, hfr, hlo, hce, hsl⟩ := hx
  intro r h1 h2 H locs ls hP hS hl
  exact lv_iconst hex hb hd hv (kk r h1 h2 H locs ls hP hS hl)
theorem bo_bipush (hx : bo_OK x cc own nL fr lo) {n : Int} {v : Int32} (hd : decode cc pc = .ok (.bipush n, 2)) (hv : (Int8.ofInt n).toInt32 = v) (kk : bo_D x (pc + 2) L (.int v :: S) σ M k) : bo_D x pc L (S) σ M k := by
  obtain ⟨p, l, e, R, s, m, args, below, meth, c, g, A, cells, slots, Q⟩ := x
  obtain ⟨hex, hb, hml, hown, hts, hK, hNW, hi, hA, hfr, hlo, hce, hsl⟩ := hx
  intro r h1 h2 H locs ls hP hS hl
  exact lv_bipush hex hb hd hv (kk r h1 h2 H locs ls hP hS hl)
theorem bo_sipush (hx : bo_OK x cc own nL fr lo) {n : Int} {v : Int32} (hd : decode cc pc = .ok (.sipush n, 3)) (hv : (Int16.ofInt n).toInt32 = v) (kk : bo_D x (pc + 3) L (.int v :: S) σ M k) : bo_D x pc L (S) σ M k := by
  obtain ⟨p, l, e, R, s, m, args, below, meth, c, g, A, cells, slots, Q⟩ := x
  obtain ⟨hex, hb, hml, hown, hts, hK, hNW, hi, hA, hfr, hlo, hce, hsl⟩ := hx
  intro r h1 h2 H locs ls hP hS hl
  exact lv_sipush hex hb hd hv (kk r h1 h2 H locs ls hP hS hl)
theorem bo_lconst (hx : bo_OK x cc own nL fr lo) {n : Fin 2} {v : Int64} (hd : decode cc pc = .ok (.lconst n, 1)) (hv : Int64.ofNat (n : Nat) = v) (kk : bo_D x (pc + 1) L (.long v :: S) σ M k) : bo_D x pc L (S) σ M k := by
  obtain ⟨p, l, e, R, s, m, args, below, meth, c, g, A, cells, slots, Q⟩ := x
  obtain ⟨hex, hb, hml, hown, hts, hK, hNW, hi, hA, hfr, hlo, hce, hsl⟩ := hx
  intro r h1 h2 H locs ls hP hS hl
  exact lv_lconst hex hb hd hv (kk r h1 h2 H locs ls hP hS hl)
theorem bo_ldc (hx : bo_OK x cc own nL fr lo) {i : Nat} {v : Int32} (hd : decode cc pc = .ok (.ldc i, 2)) (hc : Cond.constant own i v ∈ bo_tb) (kk : bo_D x (pc + 2) L (.int v :: S) σ M k) : bo_D x pc L (S) σ M k := by
  obtain ⟨p, l, e, R, s, m, args, below, meth, c, g, A, cells, slots, Q⟩ := x
  obtain ⟨hex, hb, hml, hown, hts, hK, hNW, hi, hA, hfr, hlo, hce, hsl⟩ := hx
  intro r h1 h2 H locs ls hP hS hl
  exact lv_ldc hex hb hown (hts _ hc) hd (kk r h1 h2 H locs ls hP hS hl)
theorem bo_ldcw (hx : bo_OK x cc own nL fr lo) {i : Nat} {v : Int32} (hd : decode cc pc = .ok (.ldc_w i, 3)) (hc : Cond.constant own i v ∈ bo_tb) (kk : bo_D x (pc + 3) L (.int v :: S) σ M k) : bo_D x pc L (S) σ M k := by
  obtain ⟨p, l, e, R, s, m, args, below, meth, c, g, A, cells, slots, Q⟩ := x
  obtain ⟨hex, hb, hml, hown, hts, hK, hNW, hi, hA, hfr, hlo, hce, hsl⟩ := hx
  intro r h1 h2 H locs ls hP hS hl
  exact lv_ldcw hex hb hown (hts _ hc) hd (kk r h1 h2 H locs ls hP hS hl)
theorem bo_ldc2 (hx : bo_OK x cc own nL fr lo) {i : Nat} {v : Int64} (hd : decode cc pc = .ok (.ldc2_w i, 3)) (hc : Cond.constantLong own i v ∈ bo_tb) (kk : bo_D x (pc + 3) L (.long v :: S) σ M k) : bo_D x pc L (S) σ M k := by
  obtain ⟨p, l, e, R, s, m, args, below, meth, c, g, A, cells, slots, Q⟩ := x
  obtain ⟨hex, hb, hml, hown, hts, hK, hNW, hi, hA, hfr, hlo, hce, hsl⟩ := hx
  intro r h1 h2 H locs ls hP hS hl
  exact lv_ldc2 hex hb hown (hts _ hc) hd (kk r h1 h2 H locs ls hP hS hl)
theorem bo_null (hx : bo_OK x cc own nL fr lo) (hd : decode cc pc = .ok (.aconst_null, 1)) (kk : bo_D x (pc + 1) L (.null :: S) σ M k) : bo_D x pc L (S) σ M k := by
  obtain ⟨p, l, e, R, s, m, args, below, meth, c, g, A, cells, slots, Q⟩ := x
  obtain ⟨hex, hb, hml, hown, hts, hK, hNW, hi, hA, hfr, hlo, hce, hsl⟩ := hx
  intro r h1 h2 H locs ls hP hS hl
  exact lv_null hex hb hd (kk r h1 h2 H locs ls hP hS hl)
theorem bo_dup (hx : bo_OK x cc own nL fr lo) {v : Value} (hd : decode cc pc = .ok (.dup, 1)) (hv : v.category = 1) (kk : bo_D x (pc + 1) L (v :: v :: S) σ M k) : bo_D x pc L (v :: S) σ M k := by
  obtain ⟨p, l, e, R, s, m, args, below, meth, c, g, A, cells, slots, Q⟩ := x
  obtain ⟨hex, hb, hml, hown, hts, hK, hNW, hi, hA, hfr, hlo, hce, hsl⟩ := hx
  intro r h1 h2 H locs ls hP hS hl
  exact lv_dup hex hb hd hv (kk r h1 h2 H locs ls hP hS hl)
theorem bo_pop (hx : bo_OK x cc own nL fr lo) {v : Value} (hd : decode cc pc = .ok (.pop, 1)) (hv : v.category = 1) (kk : bo_D x (pc + 1) L (S) σ M k) : bo_D x pc L (v :: S) σ M k := by
  obtain ⟨p, l, e, R, s, m, args, below, meth, c, g, A, cells, slots, Q⟩ := x
  obtain ⟨hex, hb, hml, hown, hts, hK, hNW, hi, hA, hfr, hlo, hce, hsl⟩ := hx
  intro r h1 h2 H locs ls hP hS hl
  exact lv_pop hex hb hd hv (kk r h1 h2 H locs ls hP hS hl)
theorem bo_dup2 (hx : bo_OK x cc own nL fr lo) {v w : Value} (hd : decode cc pc = .ok (.dup2, 1)) (hv : v.category = 1) (hw : w.category = 1) (kk : bo_D x (pc + 1) L (v :: w :: v :: w :: S) σ M k) : bo_D x pc L (v :: w :: S) σ M k := by
  obtain ⟨p, l, e, R, s, m, args, below, meth, c, g, A, cells, slots, Q⟩ := x
  obtain ⟨hex, hb, hml, hown, hts, hK, hNW, hi, hA, hfr, hlo, hce, hsl⟩ := hx
  intro r h1 h2 H locs ls hP hS hl
  exact lv_dup2_11 hex hb hd hv hw (kk r h1 h2 H locs ls hP hS hl)
theorem bo_iload_n (hx : bo_OK x cc own nL fr lo) {n : Fin 4} {i : Nat} {v : Int32} (hd : decode cc pc = .ok (.iload_n n, 1)) (hi0 : (n : Nat) = i) (j : Nat) (hj : L[j]? = some (i, .int v)) (kk : bo_D x (pc + 1) L (.int v :: S) σ M k) : bo_D x pc L (S) σ M k := by
  obtain ⟨p, l, e, R, s, m, args, below, meth, c, g, A, cells, slots, Q⟩ := x
  obtain ⟨hex, hb, hml, hown, hts, hK, hNW, hi, hA, hfr, hlo, hce, hsl⟩ := hx
  intro r h1 h2 H locs ls hP hS hl
  exact lv_iload_n hex hb hd hi0 (lv_at hl j hj) (kk r h1 h2 H locs ls hP hS hl)
theorem bo_iload (hx : bo_OK x cc own nL fr lo) {i : Nat} {v : Int32} (hd : decode cc pc = .ok (.iload i, 2)) (j : Nat) (hj : L[j]? = some (i, .int v)) (kk : bo_D x (pc + 2) L (.int v :: S) σ M k) : bo_D x pc L (S) σ M k := by
  obtain ⟨p, l, e, R, s, m, args, below, meth, c, g, A, cells, slots, Q⟩ := x
  obtain ⟨hex, hb, hml, hown, hts, hK, hNW, hi, hA, hfr, hlo, hce, hsl⟩ := hx
  intro r h1 h2 H locs ls hP hS hl
  exact lv_iload hex hb hd (lv_at hl j hj) (kk r h1 h2 H locs ls hP hS hl)
theorem bo_lload_n (hx : bo_OK x cc own nL fr lo) {n : Fin 4} {i : Nat} {v : Int64} (hd : decode cc pc = .ok (.lload_n n, 1)) (hi0 : (n : Nat) = i) (j : Nat) (hj : L[j]? = some (i, .long v)) (kk : bo_D x (pc + 1) L (.long v :: S) σ M k) : bo_D x pc L (S) σ M k := by
  obtain ⟨p, l, e, R, s, m, args, below, meth, c, g, A, cells, slots, Q⟩ := x
  obtain ⟨hex, hb, hml, hown, hts, hK, hNW, hi, hA, hfr, hlo, hce, hsl⟩ := hx
  intro r h1 h2 H locs ls hP hS hl
  exact lv_lload_n hex hb hd hi0 (lv_at hl j hj) (kk r h1 h2 H locs ls hP hS hl)
theorem bo_lload (hx : bo_OK x cc own nL fr lo) {i : Nat} {v : Int64} (hd : decode cc pc = .ok (.lload i, 2)) (j : Nat) (hj : L[j]? = some (i, .long v)) (kk : bo_D x (pc + 2) L (.long v :: S) σ M k) : bo_D x pc L (S) σ M k := by
  obtain ⟨p, l, e, R, s, m, args, below, meth, c, g, A, cells, slots, Q⟩ := x
  obtain ⟨hex, hb, hml, hown, hts, hK, hNW, hi, hA, hfr, hlo, hce, hsl⟩ := hx
  intro r h1 h2 H locs ls hP hS hl
  exact lv_lload hex hb hd (lv_at hl j hj) (kk r h1 h2 H locs ls hP hS hl)
theorem bo_aload_n (hx : bo_OK x cc own nL fr lo) {n : Fin 4} {i : Nat} {v : Nat} (hd : decode cc pc = .ok (.aload_n n, 1)) (hi0 : (n : Nat) = i) (j : Nat) (hj : L[j]? = some (i, .ref v)) (kk : bo_D x (pc + 1) L (.ref v :: S) σ M k) : bo_D x pc L (S) σ M k := by
  obtain ⟨p, l, e, R, s, m, args, below, meth, c, g, A, cells, slots, Q⟩ := x
  obtain ⟨hex, hb, hml, hown, hts, hK, hNW, hi, hA, hfr, hlo, hce, hsl⟩ := hx
  intro r h1 h2 H locs ls hP hS hl
  exact lv_aload_n hex hb hd hi0 (lv_at hl j hj) (kk r h1 h2 H locs ls hP hS hl)
theorem bo_aload (hx : bo_OK x cc own nL fr lo) {i : Nat} {v : Nat} (hd : decode cc pc = .ok (.aload i, 2)) (j : Nat) (hj : L[j]? = some (i, .ref v)) (kk : bo_D x (pc + 2) L (.ref v :: S) σ M k) : bo_D x pc L (S) σ M k := by
  obtain ⟨p, l, e, R, s, m, args, below, meth, c, g, A, cells, slots, Q⟩ := x
  obtain ⟨hex, hb, hml, hown, hts, hK, hNW, hi, hA, hfr, hlo, hce, hsl⟩ := hx
  intro r h1 h2 H locs ls hP hS hl
  exact lv_aload hex hb hd (lv_at hl j hj) (kk r h1 h2 H locs ls hP hS hl)
theorem bo_aload_nN (hx : bo_OK x cc own nL fr lo) {n : Fin 4} {i : Nat} (hd : decode cc pc = .ok (.aload_n n, 1)) (hi0 : (n : Nat) = i) (j : Nat) (hj : L[j]? = some (i, .null)) (kk : bo_D x (pc + 1) L (.null :: S) σ M k) : bo_D x pc L (S) σ M k := by
  obtain ⟨p, l, e, R, s, m, args, below, meth, c, g, A, cells, slots, Q⟩ := x
  obtain ⟨hex, hb, hml, hown, hts, hK, hNW, hi, hA, hfr, hlo, hce, hsl⟩ := hx
  intro r h1 h2 H locs ls hP hS hl
  exact lv_aload_nN hex hb hd hi0 (lv_at hl j hj) (kk r h1 h2 H locs ls hP hS hl)
theorem bo_istore_n (hx : bo_OK x cc own nL fr lo) {n : Fin 4} {i : Nat} {v : Int32} (hd : decode cc pc = .ok (.istore_n n, 1)) (hi0 : (n : Nat) = i) {L' : List (Nat × Value)} (hn : i < nL) (hL : (i, Value.int v) :: L.filter (fun q => !(q.1 == i) && !(q.1 + 1 == i && q.2.category == 2)) = L') (kk : bo_D x (pc + 1) L' S σ M k) : bo_D x pc L (Value.int v :: S) σ M k := by
  obtain ⟨p, l, e, R, s, m, args, below, meth, c, g, A, cells, slots, Q⟩ := x
  obtain ⟨hex, hb, hml, hown, hts, hK, hNW, hi, hA, hfr, hlo, hce, hsl⟩ := hx
  intro r h1 h2 H locs ls hP hS hl
  exact lv_istore_n hex hb hd hi0 hl (by rw [hml]; exact hn) hL (fun ls' hl' => kk r h1 h2 H locs ls' hP hS hl')
theorem bo_istore (hx : bo_OK x cc own nL fr lo) {i : Nat} {v : Int32} (hd : decode cc pc = .ok (.istore i, 2)) {L' : List (Nat × Value)} (hn : i < nL) (hL : (i, Value.int v) :: L.filter (fun q => !(q.1 == i) && !(q.1 + 1 == i && q.2.category == 2)) = L') (kk : bo_D x (pc + 2) L' S σ M k) : bo_D x pc L (Value.int v :: S) σ M k := by
  obtain ⟨p, l, e, R, s, m, args, below, meth, c, g, A, cells, slots, Q⟩ := x
  obtain ⟨hex, hb, hml, hown, hts, hK, hNW, hi, hA, hfr, hlo, hce, hsl⟩ := hx
  intro r h1 h2 H locs ls hP hS hl
  exact lv_istore hex hb hd hl (by rw [hml]; exact hn) hL (fun ls' hl' => kk r h1 h2 H locs ls' hP hS hl')
theorem bo_astore_n (hx : bo_OK x cc own nL fr lo) {n : Fin 4} {i : Nat} {v : Nat} (hd : decode cc pc = .ok (.astore_n n, 1)) (hi0 : (n : Nat) = i) {L' : List (Nat × Value)} (hn : i < nL) (hL : (i, Value.ref v) :: L.filter (fun q => !(q.1 == i) && !(q.1 + 1 == i && q.2.category == 2)) = L') (kk : bo_D x (pc + 1) L' S σ M k) : bo_D x pc L (Value.ref v :: S) σ M k := by
  obtain ⟨p, l, e, R, s, m, args, below, meth, c, g, A, cells, slots, Q⟩ := x
  obtain ⟨hex, hb, hml, hown, hts, hK, hNW, hi, hA, hfr, hlo, hce, hsl⟩ := hx
  intro r h1 h2 H locs ls hP hS hl
  exact lv_astore_n hex hb hd hi0 hl (by rw [hml]; exact hn) hL (fun ls' hl' => kk r h1 h2 H locs ls' hP hS hl')
theorem bo_astore (hx : bo_OK x cc own nL fr lo) {i : Nat} {v : Nat} (hd : decode cc pc = .ok (.astore i, 2)) {L' : List (Nat × Value)} (hn : i < nL) (hL : (i, Value.ref v) :: L.filter (fun q => !(q.1 == i) && !(q.1 + 1 == i && q.2.category == 2)) = L') (kk : bo_D x (pc + 2) L' S σ M k) : bo_D x pc L (Value.ref v :: S) σ M k := by
  obtain ⟨p, l, e, R, s, m, args, below, meth, c, g, A, cells, slots, Q⟩ := x
  obtain ⟨hex, hb, hml, hown, hts, hK, hNW, hi, hA, hfr, hlo, hce, hsl⟩ := hx
  intro r h1 h2 H locs ls hP hS hl
  exact lv_astore hex hb hd hl (by rw [hml]; exact hn) hL (fun ls' hl' => kk r h1 h2 H locs ls' hP hS hl')
theorem bo_astore_nN (hx : bo_OK x cc own nL fr lo) {n : Fin 4} {i : Nat} (hd : decode cc pc = .ok (.astore_n n, 1)) (hi0 : (n : Nat) = i) {L' : List (Nat × Value)} (hn : i < nL) (hL : (i, Value.null) :: L.filter (fun q => !(q.1 == i) && !(q.1 + 1 == i && q.2.category == 2)) = L') (kk : bo_D x (pc + 1) L' S σ M k) : bo_D x pc L (Value.null :: S) σ M k := by
  obtain ⟨p, l, e, R, s, m, args, below, meth, c, g, A, cells, slots, Q⟩ := x
  obtain ⟨hex, hb, hml, hown, hts, hK, hNW, hi, hA, hfr, hlo, hce, hsl⟩ := hx
  intro r h1 h2 H locs ls hP hS hl
  exact lv_astore_nN hex hb hd hi0 hl (by rw [hml]; exact hn) hL (fun ls' hl' => kk r h1 h2 H locs ls' hP hS hl')
theorem bo_lstore_n (hx : bo_OK x cc own nL fr lo) {n : Fin 4} {i : Nat} {v : Int64} (hd : decode cc pc = .ok (.lstore_n n, 1)) (hi0 : (n : Nat) = i) {L' : List (Nat × Value)} (hn : i + 1 < nL) (hL : (i, Value.long v) :: L.filter (fun q => !(q.1 == i) && (!(q.1 == i + 1) && !(q.1 + 1 == i && q.2.category == 2))) = L') (kk : bo_D x (pc + 1) L' S σ M k) : bo_D x pc L (Value.long v :: S) σ M k := by
  obtain ⟨p, l, e, R, s, m, args, below, meth, c, g, A, cells, slots, Q⟩ := x
  obtain ⟨hex, hb, hml, hown, hts, hK, hNW, hi, hA, hfr, hlo, hce, hsl⟩ := hx
  intro r h1 h2 H locs ls hP hS hl
  exact lv_lstore_n hex hb hd hi0 hl (by rw [hml]; exact hn) hL (fun ls' hl' => kk r h1 h2 H locs ls' hP hS hl')
theorem bo_iinc (hx : bo_OK x cc own nL fr lo) {i : Nat} {n : Int} {v w : Int32} {L' : List (Nat × Value)} (hd : decode cc pc = .ok (.iinc i n, 3)) (j : Nat) (hj : L[j]? = some (i, .int v)) (hv : v + Int32.ofInt n = w) (hn : i < nL) (hL : (i, Value.int w) :: L.filter (fun q => !(q.1 == i) && !(q.1 + 1 == i && q.2.category == 2)) = L') (kk : bo_D x (pc + 3) L' S σ M k) : bo_D x pc L S σ M k := by
  obtain ⟨p, l, e, R, s, m, args, below, meth, c, g, A, cells, slots, Q⟩ := x
  obtain ⟨hex, hb, hml, hown, hts, hK, hNW, hi, hA, hfr, hlo, hce, hsl⟩ := hx
  intro r h1 h2 H locs ls hP hS hl
  exact lv_iinc hex hb hd hl hj hv (by rw [hml]; exact hn) hL (fun ls' hl' => kk r h1 h2 H locs ls' hP hS hl')
theorem bo_sub {L' : List (Nat × Value)} (ks : List Nat) (hL : lv_pick L ks = L') (kk : bo_D x pc L' S σ M k) : bo_D x pc L S σ M k := by
  obtain ⟨p, l, e, R, s, m, args, below, meth, c, g, A, cells, slots, Q⟩ := x
  intro r h1 h2 H locs ls hP hS hl
  exact kk r h1 h2 H locs ls hP hS (lv_sub hl ks hL)
theorem bo_icmp_eq (hx : bo_OK x cc own nL fr lo) {a b : Int32} {off : Int} (tgt : Nat) (hd : decode cc pc = .ok (.if_icmp .eq off, 3)) (ht : (pc : Int) + off = (tgt : Int)) (kt : bo_D x tgt L S σ M1 k) (kf : bo_D x (pc + 3) L S σ M2 k) : bo_D x pc L (.int b :: .int a :: S) σ (if a = b then M1 else M2) k := by
  obtain ⟨p, l, e, R, s, m, args, below, meth, c, g, A, cells, slots, Q⟩ := x
  obtain ⟨hex, hb, hml, hown, hts, hK, hNW, hi, hA, hfr, hlo, hce, hsl⟩ := hx
  intro r h1 h2 H locs ls hP hS hl
  exact lv_icmp_eq hex hb hd ht (fun q => kt r (by rw [if_pos q] at h1; exact h1) h2 H locs ls hP hS hl) (fun q => kf r (by rw [if_neg q] at h1; exact h1) h2 H locs ls hP hS hl)
theorem bo_if_eq (hx : bo_OK x cc own nL fr lo) {a : Int32} {off : Int} (tgt : Nat) (hd : decode cc pc = .ok (.ifCond .eq off, 3)) (ht : (pc : Int) + off = (tgt : Int)) (kt : bo_D x tgt L S σ M1 k) (kf : bo_D x (pc + 3) L S σ M2 k) : bo_D x pc L (.int a :: S) σ (if a = 0 then M1 else M2) k := by
  obtain ⟨p, l, e, R, s, m, args, below, meth, c, g, A, cells, slots, Q⟩ := x
  obtain ⟨hex, hb, hml, hown, hts, hK, hNW, hi, hA, hfr, hlo, hce, hsl⟩ := hx
  intro r h1 h2 H locs ls hP hS hl
  exact lv_if_eq hex hb hd ht (fun q => kt r (by rw [if_pos q] at h1; exact h1) h2 H locs ls hP hS hl) (fun q => kf r (by rw [if_neg q] at h1; exact h1) h2 H locs ls hP hS hl)
theorem bo_icmp_ne (hx : bo_OK x cc own nL fr lo) {a b : Int32} {off : Int} (tgt : Nat) (hd : decode cc pc = .ok (.if_icmp .ne off, 3)) (ht : (pc : Int) + off = (tgt : Int)) (kt : bo_D x tgt L S σ M1 k) (kf : bo_D x (pc + 3) L S σ M2 k) : bo_D x pc L (.int b :: .int a :: S) σ (if a = b then M2 else M1) k := by
  obtain ⟨p, l, e, R, s, m, args, below, meth, c, g, A, cells, slots, Q⟩ := x
  obtain ⟨hex, hb, hml, hown, hts, hK, hNW, hi, hA, hfr, hlo, hce, hsl⟩ := hx
  intro r h1 h2 H locs ls hP hS hl
  exact lv_icmp_ne hex hb hd ht (fun q => kt r (by rw [if_neg q] at h1; exact h1) h2 H locs ls hP hS hl) (fun q => kf r (by rw [if_pos q] at h1; exact h1) h2 H locs ls hP hS hl)
theorem bo_if_ne (hx : bo_OK x cc own nL fr lo) {a : Int32} {off : Int} (tgt : Nat) (hd : decode cc pc = .ok (.ifCond .ne off, 3)) (ht : (pc : Int) + off = (tgt : Int)) (kt : bo_D x tgt L S σ M1 k) (kf : bo_D x (pc + 3) L S σ M2 k) : bo_D x pc L (.int a :: S) σ (if a = 0 then M2 else M1) k := by
  obtain ⟨p, l, e, R, s, m, args, below, meth, c, g, A, cells, slots, Q⟩ := x
  obtain ⟨hex, hb, hml, hown, hts, hK, hNW, hi, hA, hfr, hlo, hce, hsl⟩ := hx
  intro r h1 h2 H locs ls hP hS hl
  exact lv_if_ne hex hb hd ht (fun q => kt r (by rw [if_neg q] at h1; exact h1) h2 H locs ls hP hS hl) (fun q => kf r (by rw [if_pos q] at h1; exact h1) h2 H locs ls hP hS hl)
theorem bo_icmp_lt (hx : bo_OK x cc own nL fr lo) {a b : Int32} {off : Int} (tgt : Nat) (hd : decode cc pc = .ok (.if_icmp .lt off, 3)) (ht : (pc : Int) + off = (tgt : Int)) (kt : bo_D x tgt L S σ M1 k) (kf : bo_D x (pc + 3) L S σ M2 k) : bo_D x pc L (.int b :: .int a :: S) σ (if a < b then M1 else M2) k := by
  obtain ⟨p, l, e, R, s, m, args, below, meth, c, g, A, cells, slots, Q⟩ := x
  obtain ⟨hex, hb, hml, hown, hts, hK, hNW, hi, hA, hfr, hlo, hce, hsl⟩ := hx
  intro r h1 h2 H locs ls hP hS hl
  exact lv_icmp_lt hex hb hd ht (fun q => kt r (by rw [if_pos q] at h1; exact h1) h2 H locs ls hP hS hl) (fun q => kf r (by rw [if_neg q] at h1; exact h1) h2 H locs ls hP hS hl)
theorem bo_if_lt (hx : bo_OK x cc own nL fr lo) {a : Int32} {off : Int} (tgt : Nat) (hd : decode cc pc = .ok (.ifCond .lt off, 3)) (ht : (pc : Int) + off = (tgt : Int)) (kt : bo_D x tgt L S σ M1 k) (kf : bo_D x (pc + 3) L S σ M2 k) : bo_D x pc L (.int a :: S) σ (if a < 0 then M1 else M2) k := by
  obtain ⟨p, l, e, R, s, m, args, below, meth, c, g, A, cells, slots, Q⟩ := x
  obtain ⟨hex, hb, hml, hown, hts, hK, hNW, hi, hA, hfr, hlo, hce, hsl⟩ := hx
  intro r h1 h2 H locs ls hP hS hl
  exact lv_if_lt hex hb hd ht (fun q => kt r (by rw [if_pos q] at h1; exact h1) h2 H locs ls hP hS hl) (fun q => kf r (by rw [if_neg q] at h1; exact h1) h2 H locs ls hP hS hl)
theorem bo_icmp_ge (hx : bo_OK x cc own nL fr lo) {a b : Int32} {off : Int} (tgt : Nat) (hd : decode cc pc = .ok (.if_icmp .ge off, 3)) (ht : (pc : Int) + off = (tgt : Int)) (kt : bo_D x tgt L S σ M1 k) (kf : bo_D x (pc + 3) L S σ M2 k) : bo_D x pc L (.int b :: .int a :: S) σ (if b ≤ a then M1 else M2) k := by
  obtain ⟨p, l, e, R, s, m, args, below, meth, c, g, A, cells, slots, Q⟩ := x
  obtain ⟨hex, hb, hml, hown, hts, hK, hNW, hi, hA, hfr, hlo, hce, hsl⟩ := hx
  intro r h1 h2 H locs ls hP hS hl
  exact lv_icmp_ge hex hb hd ht (fun q => kt r (by rw [if_pos q] at h1; exact h1) h2 H locs ls hP hS hl) (fun q => kf r (by rw [if_neg q] at h1; exact h1) h2 H locs ls hP hS hl)
theorem bo_if_ge (hx : bo_OK x cc own nL fr lo) {a : Int32} {off : Int} (tgt : Nat) (hd : decode cc pc = .ok (.ifCond .ge off, 3)) (ht : (pc : Int) + off = (tgt : Int)) (kt : bo_D x tgt L S σ M1 k) (kf : bo_D x (pc + 3) L S σ M2 k) : bo_D x pc L (.int a :: S) σ (if 0 ≤ a then M1 else M2) k := by
  obtain ⟨p, l, e, R, s, m, args, below, meth, c, g, A, cells, slots, Q⟩ := x
  obtain ⟨hex, hb, hml, hown, hts, hK, hNW, hi, hA, hfr, hlo, hce, hsl⟩ := hx
  intro r h1 h2 H locs ls hP hS hl
  exact lv_if_ge hex hb hd ht (fun q => kt r (by rw [if_pos q] at h1; exact h1) h2 H locs ls hP hS hl) (fun q => kf r (by rw [if_neg q] at h1; exact h1) h2 H locs ls hP hS hl)
theorem bo_icmp_gt (hx : bo_OK x cc own nL fr lo) {a b : Int32} {off : Int} (tgt : Nat) (hd : decode cc pc = .ok (.if_icmp .gt off, 3)) (ht : (pc : Int) + off = (tgt : Int)) (kt : bo_D x tgt L S σ M1 k) (kf : bo_D x (pc + 3) L S σ M2 k) : bo_D x pc L (.int b :: .int a :: S) σ (if b < a then M1 else M2) k := by
  obtain ⟨p, l, e, R, s, m, args, below, meth, c, g, A, cells, slots, Q⟩ := x
  obtain ⟨hex, hb, hml, hown, hts, hK, hNW, hi, hA, hfr, hlo, hce, hsl⟩ := hx
  intro r h1 h2 H locs ls hP hS hl
  exact lv_icmp_gt hex hb hd ht (fun q => kt r (by rw [if_pos q] at h1; exact h1) h2 H locs ls hP hS hl) (fun q => kf r (by rw [if_neg q] at h1; exact h1) h2 H locs ls hP hS hl)
theorem bo_if_gt (hx : bo_OK x cc own nL fr lo) {a : Int32} {off : Int} (tgt : Nat) (hd : decode cc pc = .ok (.ifCond .gt off, 3)) (ht : (pc : Int) + off = (tgt : Int)) (kt : bo_D x tgt L S σ M1 k) (kf : bo_D x (pc + 3) L S σ M2 k) : bo_D x pc L (.int a :: S) σ (if 0 < a then M1 else M2) k := by
  obtain ⟨p, l, e, R, s, m, args, below, meth, c, g, A, cells, slots, Q⟩ := x
  obtain ⟨hex, hb, hml, hown, hts, hK, hNW, hi, hA, hfr, hlo, hce, hsl⟩ := hx
  intro r h1 h2 H locs ls hP hS hl
  exact lv_if_gt hex hb hd ht (fun q => kt r (by rw [if_pos q] at h1; exact h1) h2 H locs ls hP hS hl) (fun q => kf r (by rw [if_neg q] at h1; exact h1) h2 H locs ls hP hS hl)
theorem bo_icmp_le (hx : bo_OK x cc own nL fr lo) {a b : Int32} {off : Int} (tgt : Nat) (hd : decode cc pc = .ok (.if_icmp .le off, 3)) (ht : (pc : Int) + off = (tgt : Int)) (kt : bo_D x tgt L S σ M1 k) (kf : bo_D x (pc + 3) L S σ M2 k) : bo_D x pc L (.int b :: .int a :: S) σ (if a ≤ b then M1 else M2) k := by
  obtain ⟨p, l, e, R, s, m, args, below, meth, c, g, A, cells, slots, Q⟩ := x
  obtain ⟨hex, hb, hml, hown, hts, hK, hNW, hi, hA, hfr, hlo, hce, hsl⟩ := hx
  intro r h1 h2 H locs ls hP hS hl
  exact lv_icmp_le hex hb hd ht (fun q => kt r (by rw [if_pos q] at h1; exact h1) h2 H locs ls hP hS hl) (fun q => kf r (by rw [if_neg q] at h1; exact h1) h2 H locs ls hP hS hl)
theorem bo_if_le (hx : bo_OK x cc own nL fr lo) {a : Int32} {off : Int} (tgt : Nat) (hd : decode cc pc = .ok (.ifCond .le off, 3)) (ht : (pc : Int) + off = (tgt : Int)) (kt : bo_D x tgt L S σ M1 k) (kf : bo_D x (pc + 3) L S σ M2 k) : bo_D x pc L (.int a :: S) σ (if a ≤ 0 then M1 else M2) k := by
  obtain ⟨p, l, e, R, s, m, args, below, meth, c, g, A, cells, slots, Q⟩ := x
  obtain ⟨hex, hb, hml, hown, hts, hK, hNW, hi, hA, hfr, hlo, hce, hsl⟩ := hx
  intro r h1 h2 H locs ls hP hS hl
  exact lv_if_le hex hb hd ht (fun q => kt r (by rw [if_pos q] at h1; exact h1) h2 H locs ls hP hS hl) (fun q => kf r (by rw [if_neg q] at h1; exact h1) h2 H locs ls hP hS hl)
theorem bo_goto (hx : bo_OK x cc own nL fr lo) {off : Int} (tgt : Nat) (hd : decode cc pc = .ok (.goto off, 3)) (ht : (pc : Int) + off = (tgt : Int)) (kk : bo_D x tgt L S σ M k) : bo_D x pc L S σ M k := by
  obtain ⟨p, l, e, R, s, m, args, below, meth, c, g, A, cells, slots, Q⟩ := x
  obtain ⟨hex, hb, hml, hown, hts, hK, hNW, hi, hA, hfr, hlo, hce, hsl⟩ := hx
  intro r h1 h2 H locs ls hP hS hl
  exact lv_goto hex hb hd ht (kk r h1 h2 H locs ls hP hS hl)
theorem bo_ifnull (hx : bo_OK x cc own nL fr lo) {a : Nat} {off : Int} (hd : decode cc pc = .ok (.ifnull off, 3)) (kk : bo_D x (pc + 3) L S σ M k) : bo_D x pc L (.ref a :: S) σ M k := by
  obtain ⟨p, l, e, R, s, m, args, below, meth, c, g, A, cells, slots, Q⟩ := x
  obtain ⟨hex, hb, hml, hown, hts, hK, hNW, hi, hA, hfr, hlo, hce, hsl⟩ := hx
  intro r h1 h2 H locs ls hP hS hl
  exact lv_ifnull hex hb hd (kk r h1 h2 H locs ls hP hS hl)
theorem bo_ifnonnull (hx : bo_OK x cc own nL fr lo) {a : Nat} {off : Int} (tgt : Nat) (hd : decode cc pc = .ok (.ifnonnull off, 3)) (ht : (pc : Int) + off = (tgt : Int)) (kk : bo_D x tgt L S σ M k) : bo_D x pc L (.ref a :: S) σ M k := by
  obtain ⟨p, l, e, R, s, m, args, below, meth, c, g, A, cells, slots, Q⟩ := x
  obtain ⟨hex, hb, hml, hown, hts, hK, hNW, hi, hA, hfr, hlo, hce, hsl⟩ := hx
  intro r h1 h2 H locs ls hP hS hl
  exact lv_ifnonnull hex hb hd ht (kk r h1 h2 H locs ls hP hS hl)
theorem bo_ifnullN (hx : bo_OK x cc own nL fr lo) {off : Int} (tgt : Nat) (hd : decode cc pc = .ok (.ifnull off, 3)) (ht : (pc : Int) + off = (tgt : Int)) (kk : bo_D x tgt L S σ M k) : bo_D x pc L (.null :: S) σ M k := by
  obtain ⟨p, l, e, R, s, m, args, below, meth, c, g, A, cells, slots, Q⟩ := x
  obtain ⟨hex, hb, hml, hown, hts, hK, hNW, hi, hA, hfr, hlo, hce, hsl⟩ := hx
  intro r h1 h2 H locs ls hP hS hl
  exact lv_ifnullN hex hb hd ht (kk r h1 h2 H locs ls hP hS hl)
theorem bo_ifnonnullN (hx : bo_OK x cc own nL fr lo) {off : Int} (hd : decode cc pc = .ok (.ifnonnull off, 3)) (kk : bo_D x (pc + 3) L S σ M k) : bo_D x pc L (.null :: S) σ M k := by
  obtain ⟨p, l, e, R, s, m, args, below, meth, c, g, A, cells, slots, Q⟩ := x
  obtain ⟨hex, hb, hml, hown, hts, hK, hNW, hi, hA, hfr, hlo, hce, hsl⟩ := hx
  intro r h1 h2 H locs ls hP hS hl
  exact lv_ifnonnullN hex hb hd (kk r h1 h2 H locs ls hP hS hl)
def bo_irm (a b : Int32) : Int32 := a - a / b * b
def bo_lrm (a b : Int64) : Int64 := a - a / b * b
theorem bo_ne_n {a v : Int32} {n : Int} (h : ¬ a = v) (e : v.toInt = n) : a.toInt ≠ n := fun q => h (Int32.toInt_inj.mp (q.trans e.symm))
theorem bo_idivc (hx : bo_OK x cc own nL fr lo) {a b : Int32} (hd : decode cc pc = .ok (.idiv, 1)) (hb0 : ¬ b = 0) (kk : bo_D x (pc + 1) L (.int (a / b) :: S) σ M k) : bo_D x pc L (.int b :: .int a :: S) σ M k := by
  obtain ⟨p, l, e, R, s, m, args, below, meth, c, g, A, cells, slots, Q⟩ := x
  obtain ⟨hex, hb, hml, hown, hts, hK, hNW, hi, hA, hfr, hlo, hce, hsl⟩ := hx
  intro r h1 h2 H locs ls hP hS hl
  exact lv_idiv hex hb hd hb0 (kk r h1 h2 H locs ls hP hS hl)
def bo_idivo (a b : Int32) : Option Int32 := if b = 0 then none else some (a / b)
theorem bo_idiv (hx : bo_OK x cc own nL fr lo) {a b : Int32} {K : Int32 → Option α} (hd : decode cc pc = .ok (.idiv, 1)) (kk : ∀ v : Int32, bo_D x (pc + 1) L (.int v :: S) σ (K v) k) : bo_D x pc L (.int b :: .int a :: S) σ ((bo_idivo a b).bind K) k := by
  intro r h1 h2
  obtain ⟨v, hv, hK0⟩ := bo_bind h1
  unfold bo_idivo at hv
  by_cases hb0 : b = 0
  · rw [if_pos hb0] at hv; cases hv
  · rw [if_neg hb0] at hv
    cases hv
    exact bo_idivc hx hd hb0 (kk _) r hK0 h2
theorem bo_iremc (hx : bo_OK x cc own nL fr lo) {a b : Int32} (hd : decode cc pc = .ok (.irem, 1)) (hb0 : ¬ b = 0) (kk : bo_D x (pc + 1) L (.int (bo_irm a b) :: S) σ M k) : bo_D x pc L (.int b :: .int a :: S) σ M k := by
  obtain ⟨p, l, e, R, s, m, args, below, meth, c, g, A, cells, slots, Q⟩ := x
  obtain ⟨hex, hb, hml, hown, hts, hK, hNW, hi, hA, hfr, hlo, hce, hsl⟩ := hx
  intro r h1 h2 H locs ls hP hS hl
  exact lv_irem hex hb hd hb0 (kk r h1 h2 H locs ls hP hS hl)
def bo_iremo (a b : Int32) : Option Int32 := if b = 0 then none else some (bo_irm a b)
theorem bo_irem (hx : bo_OK x cc own nL fr lo) {a b : Int32} {K : Int32 → Option α} (hd : decode cc pc = .ok (.irem, 1)) (kk : ∀ v : Int32, bo_D x (pc + 1) L (.int v :: S) σ (K v) k) : bo_D x pc L (.int b :: .int a :: S) σ ((bo_iremo a b).bind K) k := by
  intro r h1 h2
  obtain ⟨v, hv, hK0⟩ := bo_bind h1
  unfold bo_iremo at hv
  by_cases hb0 : b = 0
  · rw [if_pos hb0] at hv; cases hv
  · rw [if_neg hb0] at hv
    cases hv
    exact bo_iremc hx hd hb0 (kk _) r hK0 h2
theorem bo_ldivc (hx : bo_OK x cc own nL fr lo) {a b : Int64} (hd : decode cc pc = .ok (.ldiv, 1)) (hb0 : ¬ b = 0) (kk : bo_D x (pc + 1) L (.long (a / b) :: S) σ M k) : bo_D x pc L (.long b :: .long a :: S) σ M k := by
  obtain ⟨p, l, e, R, s, m, args, below, meth, c, g, A, cells, slots, Q⟩ := x
  obtain ⟨hex, hb, hml, hown, hts, hK, hNW, hi, hA, hfr, hlo, hce, hsl⟩ := hx
  intro r h1 h2 H locs ls hP hS hl
  exact lv_ldiv hex hb hd hb0 (kk r h1 h2 H locs ls hP hS hl)
def bo_ldivo (a b : Int64) : Option Int64 := if b = 0 then none else some (a / b)
theorem bo_ldiv (hx : bo_OK x cc own nL fr lo) {a b : Int64} {K : Int64 → Option α} (hd : decode cc pc = .ok (.ldiv, 1)) (kk : ∀ v : Int64, bo_D x (pc + 1) L (.long v :: S) σ (K v) k) : bo_D x pc L (.long b :: .long a :: S) σ ((bo_ldivo a b).bind K) k := by
  intro r h1 h2
  obtain ⟨v, hv, hK0⟩ := bo_bind h1
  unfold bo_ldivo at hv
  by_cases hb0 : b = 0
  · rw [if_pos hb0] at hv; cases hv
  · rw [if_neg hb0] at hv
    cases hv
    exact bo_ldivc hx hd hb0 (kk _) r hK0 h2
theorem bo_lremc (hx : bo_OK x cc own nL fr lo) {a b : Int64} (hd : decode cc pc = .ok (.lrem, 1)) (hb0 : ¬ b = 0) (kk : bo_D x (pc + 1) L (.long (bo_lrm a b) :: S) σ M k) : bo_D x pc L (.long b :: .long a :: S) σ M k := by
  obtain ⟨p, l, e, R, s, m, args, below, meth, c, g, A, cells, slots, Q⟩ := x
  obtain ⟨hex, hb, hml, hown, hts, hK, hNW, hi, hA, hfr, hlo, hce, hsl⟩ := hx
  intro r h1 h2 H locs ls hP hS hl
  exact lv_lrem hex hb hd hb0 (kk r h1 h2 H locs ls hP hS hl)
def bo_lremo (a b : Int64) : Option Int64 := if b = 0 then none else some (bo_lrm a b)
theorem bo_lrem (hx : bo_OK x cc own nL fr lo) {a b : Int64} {K : Int64 → Option α} (hd : decode cc pc = .ok (.lrem, 1)) (kk : ∀ v : Int64, bo_D x (pc + 1) L (.long v :: S) σ (K v) k) : bo_D x pc L (.long b :: .long a :: S) σ ((bo_lremo a b).bind K) k := by
  intro r h1 h2
  obtain ⟨v, hv, hK0⟩ := bo_bind h1
  unfold bo_lremo at hv
  by_cases hb0 : b = 0
  · rw [if_pos hb0] at hv; cases hv
  · rw [if_neg hb0] at hv
    cases hv
    exact bo_lremc hx hd hb0 (kk _) r hK0 h2
theorem bo_seq {M0 : Option β} {K : β → Option α} (pcJ : Nat) (LJ : β → List (Nat × Value)) (SJ : β → List Value) (σJ : β → bo_M) (h1 : bo_D x pc L S σ M0 (fun a => bo_N x pcJ (LJ a) (SJ a) (σJ a))) (h2 : ∀ a, bo_D x pcJ (LJ a) (SJ a) (σJ a) (K a) k) : bo_D x pc L S σ (M0.bind K) k := by
  intro r h3 h4
  obtain ⟨a, ha, hK0⟩ := bo_bind h3
  exact h1 a ha (h2 a r hK0 h4)
theorem bo_arr {a : β} {J : β → Prop} (h : J a → bo_N x pc L S σ) : bo_D x pc L S σ (some a) J := fun _ h1 h2 => by cases h1; exact h h2
theorem bo_none {J : β → Prop} : bo_D x pc L S σ none J := fun _ h1 _ => by cases h1
theorem bo_by {q : Prop} [Decidable q] (kt : q → bo_D x pc L S σ M1 k) (kf : ¬ q → bo_D x pc L S σ M2 k) : bo_D x pc L S σ (if q then M1 else M2) k := by
  intro r h1 h2
  by_cases h : q
  · rw [if_pos h] at h1; exact kt h r h1 h2
  · rw [if_neg h] at h1; exact kf h r h1 h2
end BO
section BO2
variable {x : bo_X} {cc : ByteArray} {own : String} {nL fr lo : Nat} {pc : Nat} {L : List (Nat × Value)} {S : List Value} {σ : bo_M} {α β : Type} {M M1 M2 : Option α} {k : α → Prop}
theorem bo_tabIn (hx : bo_OK x cc own nL fr lo) {a v : Int32} {dflt lo' hi : Int} {offs : Array Int} {len : Nat} {off : Int} (tgt : Nat) (hd : decode cc pc = .ok (.tableswitch dflt lo' hi offs, len)) (hv : a = v) (h1' : ¬ v.toInt < lo') (h2' : ¬ hi < v.toInt) (ho : offs[(v.toInt - lo').toNat]? = some off) (ht : (pc : Int) + off = (tgt : Int)) (kk : bo_D x tgt L S σ M k) : bo_D x pc L (.int a :: S) σ M k := by
  subst hv
  obtain ⟨p, l, e, R, s, m, args, below, meth, c, g, A, cells, slots, Q⟩ := x
  obtain ⟨hex, hb, hml, hown, hts, hK, hNW, hi, hA, hfr, hlo, hce, hsl⟩ := hx
  intro r h1 h2 H locs ls hP hS hl
  exact lv_tableIn hex hb hd h1' h2' ho ht (kk r h1 h2 H locs ls hP hS hl)
theorem bo_tabOut (hx : bo_OK x cc own nL fr lo) {a : Int32} {dflt lo' hi : Int} {offs : Array Int} {len : Nat} (tgt : Nat) (hd : decode cc pc = .ok (.tableswitch dflt lo' hi offs, len)) (h : a.toInt < lo' ∨ hi < a.toInt) (ht : (pc : Int) + dflt = (tgt : Int)) (kk : bo_D x tgt L S σ M k) : bo_D x pc L (.int a :: S) σ M k := by
  obtain ⟨p, l, e, R, s, m, args, below, meth, c, g, A, cells, slots, Q⟩ := x
  obtain ⟨hex, hb, hml, hown, hts, hK, hNW, hi, hA, hfr, hlo, hce, hsl⟩ := hx
  intro r h1 h2 H locs ls hP hS hl
  exact lv_tableOut hex hb hd h ht (kk r h1 h2 H locs ls hP hS hl)
theorem bo_look (hx : bo_OK x cc own nL fr lo) {a : Int32} {dflt : Int} {ps : Array (Int × Int)} {len : Nat} {off : Int} (tgt : Nat) (hd : decode cc pc = .ok (.lookupswitch dflt ps, len)) (hp : (ps.toList.zip (ps.toList.drop 1)).all (fun (a, next) => a.1 < next.1) = true) (ho : Op.lookupswitch.offset ps.toList dflt a.toInt = off) (ht : (pc : Int) + off = (tgt : Int)) (kk : bo_D x tgt L S σ M k) : bo_D x pc L (.int a :: S) σ M k := by
  obtain ⟨p, l, e, R, s, m, args, below, meth, c, g, A, cells, slots, Q⟩ := x
  obtain ⟨hex, hb, hml, hown, hts, hK, hNW, hi, hA, hfr, hlo, hce, hsl⟩ := hx
  intro r h1 h2 H locs ls hP hS hl
  exact lv_lookup hex hb hd hp ho ht (kk r h1 h2 H locs ls hP hS hl)
theorem bo_neI {a v : Int32} (h : ¬ a = v) : a.toInt ≠ v.toInt := fun e => h (Int32.toInt_inj.mp e)
/-! fields -/
theorem bo_fvs_get {ad : Nat → Nat} {o : Nat} {f : Nat → Int32} {t : Nat × Nat} : ∀ (ts : List (Nat × Nat)) (j i : Nat), ts[i]? = some t → (bo_fvs ad o f j ts)[i]? = some (bo_fv ad o f (j + i) t)
  | [], j, i, h => by simp at h
  | u :: ts, j, 0, h => by
    simp only [List.getElem?_cons_zero, Option.some.injEq] at h
    subst h
    rfl
  | u :: ts, j, i + 1, h => by
    simp only [List.getElem?_cons_succ] at h
    have := bo_fvs_get (ad := ad) (o := o) (f := f) ts (j + 1) i h
    rw [show j + (i + 1) = j + 1 + i by omega, ← this]
    rfl
theorem bo_fvs_len {ad : Nat → Nat} {o : Nat} {f : Nat → Int32} : ∀ (ts : List (Nat × Nat)) (j : Nat), (bo_fvs ad o f j ts).length = ts.length
  | [], _ => rfl
  | _ :: ts, j => congrArg (· + 1) (bo_fvs_len ts (j + 1))
theorem bo_fv_ne {ad : Nat → Nat} {o : Nat} {f : Nat → Int32} {i j : Nat} {v : Int32} {t : Nat × Nat} (h : i ≠ j) : bo_fv ad o (upd f j v) i t = bo_fv ad o f i t := by
  have : upd f j v i = f i := by unfold upd; rw [if_neg h]
  unfold bo_fv
  rw [this]
theorem bo_fvs_upd {ad : Nat → Nat} {o : Nat} {f : Nat → Int32} {i : Nat} {v : Int32} : ∀ (ts : List (Nat × Nat)) (j : Nat), i < j → bo_fvs ad o (upd f i v) j ts = bo_fvs ad o f j ts
  | [], _, _ => rfl
  | t :: ts, j, h => by
    show bo_fv ad o (upd f i v) j t :: _ = bo_fv ad o f j t :: _
    rw [bo_fv_ne (by omega), bo_fvs_upd ts (j + 1) (by omega)]
theorem bo_fvs_set {ad : Nat → Nat} {o : Nat} {f : Nat → Int32} {vi : Int32} {v : Value} {t : Nat × Nat} : ∀ (ts : List (Nat × Nat)) (j i : Nat), ts[i]? = some t → bo_fv ad o (upd f (j + i) vi) (j + i) t = v → (bo_fvs ad o f j ts).set i v = bo_fvs ad o (upd f (j + i) vi) j ts
  | [], j, i, h, _ => by simp at h
  | u :: ts, j, 0, h, hv => by
    simp only [List.getElem?_cons_zero, Option.some.injEq] at h
    subst h
    show v :: bo_fvs ad o f (j + 1) ts = bo_fv ad o (upd f (j + 0) vi) j u :: bo_fvs ad o (upd f (j + 0) vi) (j + 1) ts
    rw [bo_fvs_upd ts (j + 1) (by omega)]
    rw [← hv]
    rfl
  | u :: ts, j, i + 1, h, hv => by
    simp only [List.getElem?_cons_succ] at h
    have e : j + (i + 1) = j + 1 + i := by omega
    have := bo_fvs_set (ad := ad) (o := o) (f := f) (vi := vi) (v := v) ts (j + 1) i h (by rw [← e]; exact hv)
    show bo_fv ad o f j u :: (bo_fvs ad o f (j + 1) ts).set i v = bo_fv ad o (upd f (j + (i + 1)) vi) j u :: bo_fvs ad o (upd f (j + (i + 1)) vi) (j + 1) ts
    rw [this, bo_fv_ne (by omega), e]
theorem bo_at_o {g : bo_G} {σ : bo_M} {o ci : Nat} {ts : List (Nat × Nat)} (h : bo_isO o ci ts) : (bo_ws g σ)[o]? = some (g.2.2 o, .inr (ci, bo_fvs g.2.2 o (σ o) 0 ts)) := by
  rw [bo_ws_get h.1, h.2]
  rfl
theorem bo_get (hx : bo_OK x cc own nL fr lo) {o ci i idx N : Nat} {ts : List (Nat × Nat)} {C : String} {T : u_T} {t : Nat × Nat} (ho : bo_isO o ci ts) (hc : bo_cl[ci]? = some (C, T, N)) (hk : i < N) (hin : ∀ w ∈ u_ws C T N, w ∈ bo_tb) (hlink : Cond.fieldLink own idx C (T i).2.1 (T i).2.2.1 ∈ bo_tb) (hsame : (T i).1 = C) (ht : ts[i]? = some t) (hd : decode cc pc = .ok (.getfield idx, 3)) (kk : bo_D x (pc + 3) L (bo_fv (bo_g x).2.2 o (σ o) i t :: S) σ M k) : bo_D x pc L (.ref (bo_a x o) :: S) σ M k := by
  obtain ⟨p, l, e, R, s, m, args, below, meth, c, g, A, cells, slots, Q⟩ := x
  obtain ⟨hex, hb, hml, hown, hts, hK, hNW, hi, hA, hfr, hlo, hce, hsl⟩ := hx
  intro r h1 h2 H locs ls hP hS hl
  have hv := bo_fvs_get (ad := g.2.2) (o := o) (f := σ o) ts 0 i ht
  rw [Nat.zero_add] at hv
  exact va_get hex hb hts hin hown hK hP o (bo_at_o ho) hc i hk (hts _ hlink) (fun z hz => by rw [hsame] at hz; exact hz) hv hd (kk r h1 h2 H locs ls hP hS hl)
theorem bo_put (hx : bo_OK x cc own nL fr lo) {o ci i idx N : Nat} {ts : List (Nat × Nat)} {C : String} {T : u_T} {t : Nat × Nat} (ho : bo_isO o ci ts) (hc : bo_cl[ci]? = some (C, T, N)) (hk : i < N) (hin : ∀ w ∈ u_ws C T N, w ∈ bo_tb) (hlink : Cond.fieldLink own idx C (T i).2.1 (T i).2.2.1 ∈ bo_tb) (hsame : (T i).1 = C) (ht : ts[i]? = some t)
    {ty0 : Nat → FieldType} (hty : ∀ k, k < N → parseFieldDescriptor (T k).2.2.1 = some (ty0 k)) (hnm : ∀ a, a < N → ∀ b, b < N → a ≠ b → (T a).2.1 ≠ (T b).2.1) (hfin : (T i).2.2.2 = false) {ty : FieldType} {v : Value} {vi : Int32} (hd0 : parseFieldDescriptor (T i).2.2.1 = some ty) (hn : narrow ty v = v) (hfit : fits ty v = true) (hset : bo_fv (bo_g x).2.2 o (upd (σ o) i vi) i t = v)
    {K : bo_M → Option α} (hd : decode cc pc = .ok (.putfield idx, 3)) (kk : ∀ σ', bo_D x (pc + 3) L S σ' (K σ') k) : bo_D x pc L (v :: .ref (bo_a x o) :: S) σ ((some (bo_up σ o i vi)).bind K) k := by
  obtain ⟨p, l, e, R, s, m, args, below, meth, c, g, A, cells, slots, Q⟩ := x
  obtain ⟨hex, hb, hml, hown, hts, hK, hNW, hi, hA, hfr, hlo, hce, hsl⟩ := hx
  intro r h1 h2 H locs ls hP hS hl
  have hset' := bo_fvs_set (ad := g.2.2) (o := o) (f := σ o) (vi := vi) (v := v) ts 0 i ht (by rw [Nat.zero_add]; exact hset)
  rw [Nat.zero_add] at hset'
  have hlt : i < ts.length := (List.getElem?_eq_some_iff.mp ht).1
  refine va_put hex hb hts hin ty0 hty hnm hown hK hP (bo_ws_D hi hA) hS o (bo_at_o ho) hc i hk (hts _ hlink) (fun z hz => by rw [hsame] at hz; exact hz) hfin hd0 hn hfit (by rw [bo_fvs_len]; exact hlt) hd (fun H1 locs1 hP1 _ hS1 => ?_)
  have e : (bo_ws g σ).set o (g.2.2 o, .inr (ci, (bo_fvs g.2.2 o (σ o) 0 ts).set i v)) = bo_ws g (bo_up σ o i vi) := bo_ws_set ho.1 (by rw [ho.2, hset']; rfl)
  exact kk _ r h1 h2 H1 locs1 ls (e ▸ hP1) hS1 hl
/-! arrays -/
def bo_ld (n : Nat) (σ : bo_M) (o : Nat) (i : Int32) : Option Int32 := if 0 ≤ i ∧ i.toNatClampNeg < n then some (σ o i.toNatClampNeg) else none
def bo_st (n : Nat) (σ : bo_M) (o : Nat) (i v : Int32) : Option bo_M := if 0 ≤ i ∧ i.toNatClampNeg < n then some (bo_up σ o i.toNatClampNeg v) else none
theorem bo_in {i : Int32} {n : Nat} (h : 0 ≤ i ∧ i.toNatClampNeg < n) : vp_in i n := by
  rintro (h1 | h1)
  · have a := Int32.lt_iff_toInt_lt.mp h1
    have b := Int32.le_iff_toInt_le.mp h.1
    omega
  · omega
theorem bo_at_a {g : bo_G} {σ : bo_M} {o n : Nat} (h : bo_isA o n) : (bo_ws g σ)[o]? = some (g.2.2 o, .inl (g.1 0, n, .inl (σ o))) := by
  rw [bo_ws_get h.1, h.2]
  rfl
def bo_isZ (o n : Nat) : Prop := o < 168 ∧ bo_lay o = .inl (1, n)
def bo_isQ (o n : Nat) : Prop := o < 168 ∧ bo_lay o = .inl (2, n)
theorem bo_at_z {g : bo_G} {σ : bo_M} {o n : Nat} (h : bo_isZ o n) : (bo_ws g σ)[o]? = some (g.2.2 o, .inl (g.1 1, n, .inl (σ o))) := by
  rw [bo_ws_get h.1, h.2]
  rfl
theorem bo_at_q {g : bo_G} {σ : bo_M} {o n : Nat} (h : bo_isQ o n) : (bo_ws g σ)[o]? = some (g.2.2 o, .inl (g.1 2, n, .inr (.inr (.inr (.inr (fun k => some (g.2.2 (bo_ev (σ o k))))))))) := by
  rw [bo_ws_get h.1, h.2]
  rfl
theorem bo_iald (hx : bo_OK x cc own nL fr lo) {o n : Nat} {i : Int32} {K : Int32 → Option α} (ho : bo_isA o n) (hd : decode cc pc = .ok (.iaload, 1)) (kk : ∀ v, bo_D x (pc + 1) L (.int v :: S) σ (K v) k) : bo_D x pc L (.int i :: .ref (bo_a x o) :: S) σ ((bo_ld n σ o i).bind K) k := by
  obtain ⟨p, l, e, R, s, m, args, below, meth, c, g, A, cells, slots, Q⟩ := x
  obtain ⟨hex, hb, hml, hown, hts, hK, hNW, hi, hA, hfr, hlo, hce, hsl⟩ := hx
  intro r h1 h2 H locs ls hP hS hl
  obtain ⟨v, hv, hK0⟩ := bo_bind h1
  unfold bo_ld at hv
  by_cases h : 0 ≤ i ∧ i.toNatClampNeg < n
  · rw [if_pos h] at hv
    cases hv
    exact va_iald hex hb hK hP o 0 (bo_at_a ho) rfl (bo_in h) hd (kk _ r hK0 h2 H locs ls hP hS hl)
  · rw [if_neg h] at hv; cases hv
theorem bo_zald (hx : bo_OK x cc own nL fr lo) {o n : Nat} {i : Int32} {K : Int32 → Option α} (ho : bo_isZ o n) (hd : decode cc pc = .ok (.baload, 1)) (kk : ∀ v, bo_D x (pc + 1) L (.int v :: S) σ (K v) k) : bo_D x pc L (.int i :: .ref (bo_a x o) :: S) σ ((bo_ld n σ o i).bind K) k := by
  obtain ⟨p, l, e, R, s, m, args, below, meth, c, g, A, cells, slots, Q⟩ := x
  obtain ⟨hex, hb, hml, hown, hts, hK, hNW, hi, hA, hfr, hlo, hce, hsl⟩ := hx
  intro r h1 h2 H locs ls hP hS hl
  obtain ⟨v, hv, hK0⟩ := bo_bind h1
  unfold bo_ld at hv
  by_cases h : 0 ≤ i ∧ i.toNatClampNeg < n
  · rw [if_pos h] at hv
    cases hv
    exact va_zald hex hb hK hP o 1 (bo_at_z ho) rfl (bo_in h) hd (kk _ r hK0 h2 H locs ls hP hS hl)
  · rw [if_neg h] at hv; cases hv
theorem bo_aald (hx : bo_OK x cc own nL fr lo) {o n : Nat} {i : Int32} {K : Int32 → Option α} (ho : bo_isQ o n) (hd : decode cc pc = .ok (.aaload, 1)) (kk : ∀ v, bo_D x (pc + 1) L (.ref (bo_a x (bo_ev v)) :: S) σ (K v) k) : bo_D x pc L (.int i :: .ref (bo_a x o) :: S) σ ((bo_ld n σ o i).bind K) k := by
  obtain ⟨p, l, e, R, s, m, args, below, meth, c, g, A, cells, slots, Q⟩ := x
  obtain ⟨hex, hb, hml, hown, hts, hK, hNW, hi, hA, hfr, hlo, hce, hsl⟩ := hx
  intro r h1 h2 H locs ls hP hS hl
  obtain ⟨v, hv, hK0⟩ := bo_bind h1
  unfold bo_ld at hv
  by_cases h : 0 ≤ i ∧ i.toNatClampNeg < n
  · rw [if_pos h] at hv
    cases hv
    exact va_aldq (C := "BellRope$Evening") hex hb hK hP o 2 (bo_at_q ho) rfl (bo_in h) hd (kk _ r hK0 h2 H locs ls hP hS hl)
  · rw [if_neg h] at hv; cases hv
theorem bo_iast (hx : bo_OK x cc own nL fr lo) {o n : Nat} {i v : Int32} {K : bo_M → Option α} (ho : bo_isA o n) (hd : decode cc pc = .ok (.iastore, 1)) (kk : ∀ σ', bo_D x (pc + 1) L S σ' (K σ') k) : bo_D x pc L (.int v :: .int i :: .ref (bo_a x o) :: S) σ ((bo_st n σ o i v).bind K) k := by
  obtain ⟨p, l, e, R, s, m, args, below, meth, c, g, A, cells, slots, Q⟩ := x
  obtain ⟨hex, hb, hml, hown, hts, hK, hNW, hi, hA, hfr, hlo, hce, hsl⟩ := hx
  intro r h1 h2 H locs ls hP hS hl
  obtain ⟨σ', hv, hK0⟩ := bo_bind h1
  unfold bo_st at hv
  by_cases h : 0 ≤ i ∧ i.toNatClampNeg < n
  · rw [if_pos h] at hv
    cases hv
    refine va_iast hex hb hK hP (bo_ws_D hi hA) hS o 0 (bo_at_a ho) rfl (bo_in h) hd (fun H1 locs1 hP1 _ hS1 => ?_)
    rw [bo_ws_set ho.1 (by rw [ho.2]; rfl)] at hP1
    exact kk _ r hK0 h2 H1 locs1 ls hP1 hS1 hl
  · rw [if_neg h] at hv; cases hv
theorem bo_zast (hx : bo_OK x cc own nL fr lo) {o n : Nat} {i v : Int32} {K : bo_M → Option α} (ho : bo_isZ o n) (hd : decode cc pc = .ok (.bastore, 1)) (kk : ∀ σ', bo_D x (pc + 1) L S σ' (K σ') k) : bo_D x pc L (.int v :: .int i :: .ref (bo_a x o) :: S) σ ((bo_st n σ o i (v &&& 1)).bind K) k := by
  obtain ⟨p, l, e, R, s, m, args, below, meth, c, g, A, cells, slots, Q⟩ := x
  obtain ⟨hex, hb, hml, hown, hts, hK, hNW, hi, hA, hfr, hlo, hce, hsl⟩ := hx
  intro r h1 h2 H locs ls hP hS hl
  obtain ⟨σ', hv, hK0⟩ := bo_bind h1
  unfold bo_st at hv
  by_cases h : 0 ≤ i ∧ i.toNatClampNeg < n
  · rw [if_pos h] at hv
    cases hv
    refine va_zast hex hb hK hP (bo_ws_D hi hA) hS o 1 (bo_at_z ho) rfl (bo_in h) hd (fun H1 locs1 hP1 _ hS1 => ?_)
    rw [bo_ws_set (v := v &&& 1) ho.1 (by rw [ho.2]; rfl)] at hP1
    exact kk _ r hK0 h2 H1 locs1 ls hP1 hS1 hl
  · rw [if_neg h] at hv; cases hv
theorem bo_aast (hx : bo_OK x cc own nL fr lo) {o n : Nat} {i v : Int32} {K : bo_M → Option α} (ho : bo_isQ o n) (hd : decode cc pc = .ok (.aastore, 1)) (kk : ∀ σ', bo_D x (pc + 1) L S σ' (K σ') k) : bo_D x pc L (.ref (bo_a x (bo_ev v)) :: .int i :: .ref (bo_a x o) :: S) σ ((bo_st n σ o i v).bind K) k := by
  obtain ⟨p, l, e, R, s, m, args, below, meth, c, g, A, cells, slots, Q⟩ := x
  obtain ⟨hex, hb, hml, hown, hts, hK, hNW, hi, hA, hfr, hlo, hce, hsl⟩ := hx
  intro r h1 h2 H locs ls hP hS hl
  obtain ⟨σ', hv, hK0⟩ := bo_bind h1
  unfold bo_st at hv
  by_cases h : 0 ≤ i ∧ i.toNatClampNeg < n
  · rw [if_pos h] at hv
    cases hv
    refine va_astq (r := (RX2, TX2, 10)) hex hb hK hP (bo_ws_D hi hA) hS o 2 (bo_ev v) 2 (bo_at_q ho) rfl (bo_at_o (bo_ev_ok v).o) rfl (bo_in h) hd (fun H1 locs1 hP1 _ hS1 => ?_)
    have hf : (fun k => some (g.2.2 (bo_ev (upd (σ o) i.toNatClampNeg v k)))) = va_up (fun k => some (g.2.2 (bo_ev (σ o k)))) i.toNatClampNeg (some (g.2.2 (bo_ev v))) := by
      funext j
      unfold upd va_up
      split <;> rfl
    rw [bo_ws_set (n := o) (k := i.toNatClampNeg) (v := v) ho.1 (by
      rw [ho.2, ← hf]
      rfl)] at hP1
    exact kk _ r hK0 h2 H1 locs1 ls hP1 hS1 hl
  · rw [if_neg h] at hv; cases hv
theorem bo_alen (hx : bo_OK x cc own nL fr lo) {o n : Nat} {v : Int32} (ho : bo_isA o n) (hv : Int32.ofNat n = v) (hd : decode cc pc = .ok (.arraylength, 1)) (kk : bo_D x (pc + 1) L (.int v :: S) σ M k) : bo_D x pc L (.ref (bo_a x o) :: S) σ M k := by
  obtain ⟨p, l, e, R, s, m, args, below, meth, c, g, A, cells, slots, Q⟩ := x
  obtain ⟨hex, hb, hml, hown, hts, hK, hNW, hi, hA, hfr, hlo, hce, hsl⟩ := hx
  intro r h1 h2 H locs ls hP hS hl
  exact va_alen hex hb hK hP o 0 (bo_at_a ho) rfl hv hd (kk r h1 h2 H locs ls hP hS hl)
theorem bo_alenQ (hx : bo_OK x cc own nL fr lo) {o n : Nat} {v : Int32} (ho : bo_isQ o n) (hv : Int32.ofNat n = v) (hd : decode cc pc = .ok (.arraylength, 1)) (kk : bo_D x (pc + 1) L (.int v :: S) σ M k) : bo_D x pc L (.ref (bo_a x o) :: S) σ M k := by
  obtain ⟨p, l, e, R, s, m, args, below, meth, c, g, A, cells, slots, Q⟩ := x
  obtain ⟨hex, hb, hml, hown, hts, hK, hNW, hi, hA, hfr, hlo, hce, hsl⟩ := hx
  intro r h1 h2 H locs ls hP hS hl
  exact va_alen hex hb hK hP o 2 (bo_at_q ho) rfl hv hd (kk r h1 h2 H locs ls hP hS hl)
theorem bo_max (hx : bo_OK x cc own nL fr lo) {a b : Int32} {idx : Nat} (hd : decode cc pc = .ok (.invokestatic idx, 3)) (hl0 : Cond.methodLink own idx Lib.Math.max.name ∈ bo_tb) (hs0 : Cond.static Lib.Math.max.name ∈ bo_tb) (hi0 : Cond.initialized "java/lang/Math" ∈ bo_tb) (hc0 : Cond.code Lib.Math.max.name Lib.Math.max.code 2 (some .int) ∈ bo_tb) (hf : 1 ≤ fr) (hr : (S.map fun v => v.category).sum + 13 ≤ lo) (kk : bo_D x (pc + 3) L (.int (if a < b then b else a) :: S) σ M k) : bo_D x pc L (.int b :: .int a :: S) σ M k := by
  obtain ⟨p, l, e, R, s, m, args, below, meth, c, g, A, cells, slots, Q⟩ := x
  obtain ⟨hex, hb, hml, hown, hts, hK, hNW, hi, hA, hfr, hlo, hce, hsl⟩ := hx
  intro r h1 h2 H locs ls hP hS hl
  exact va_mmax hex hb hl.1.symm hown (hts _ hl0) (hts _ hs0) (hts _ hi0) (hts _ hc0) (Nat.le_trans hf hfr) (Nat.le_trans hr hlo) hce hsl hd (kk r h1 h2 H locs ls hP hS hl)
theorem bo_min (hx : bo_OK x cc own nL fr lo) {a b : Int32} {idx : Nat} (hd : decode cc pc = .ok (.invokestatic idx, 3)) (hl0 : Cond.methodLink own idx Lib.Math.min.name ∈ bo_tb) (hs0 : Cond.static Lib.Math.min.name ∈ bo_tb) (hi0 : Cond.initialized "java/lang/Math" ∈ bo_tb) (hc0 : Cond.code Lib.Math.min.name Lib.Math.min.code 2 (some .int) ∈ bo_tb) (hf : 1 ≤ fr) (hr : (S.map fun v => v.category).sum + 13 ≤ lo) (kk : bo_D x (pc + 3) L (.int (if b < a then b else a) :: S) σ M k) : bo_D x pc L (.int b :: .int a :: S) σ M k := by
  obtain ⟨p, l, e, R, s, m, args, below, meth, c, g, A, cells, slots, Q⟩ := x
  obtain ⟨hex, hb, hml, hown, hts, hK, hNW, hi, hA, hfr, hlo, hce, hsl⟩ := hx
  intro r h1 h2 H locs ls hP hS hl
  exact va_mmin hex hb hl.1.symm hown (hts _ hl0) (hts _ hs0) (hts _ hi0) (hts _ hc0) (Nat.le_trans hf hfr) (Nat.le_trans hr hlo) hce hsl hd (kk r h1 h2 H locs ls hP hS hl)
end BO2
