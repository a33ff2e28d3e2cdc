/-! more rows; the constructors of Image and Trial -/
section CONK
variable {x : co_X} {cc : ByteArray} {own : String} {nL fr lo kc ks : Nat} {pc : Nat} {L : List (Nat × Value)} {S : List Value} {V : va_W} {k n : Nat}
/-- a field is set; its list keeps a name -/
theorem co_putFL (hx : co_OK x cc own nL fr lo kc ks) (hin0 : co_I x) {C : String} {T : u_T} {N ci i idx a : Nat} {fs : List Value} {v : Value} {ty : FieldType} (hd : decode cc pc = .ok (.putfield idx, 3)) (hin : ∀ w ∈ u_ws C T N, w ∈ bo_tb) (ty0 : Nat → FieldType) (hty : ∀ k, k < N → parseFieldDescriptor (T k).2.2.1 = some (ty0 k)) (hnm : ∀ a, a < N → ∀ b, b < N → a ≠ b → (T a).2.1 ≠ (T b).2.1) (hc : bo_cl[ci]? = some (C, T, N)) (hi : i < N) (hlink : Cond.fieldLink own idx C (T i).2.1 (T i).2.2.1 ∈ bo_tb) (hsame : (T i).1 = C) (hfin : (T i).2.2.2 = true) (hdecl : (T i).1 = own) (hd0 : ty0 i = ty) (hn0 : narrow ty v = v) (hfit : fits ty v = true) (hl0 : fs.length = N)
    (kk : ∀ fs' : List Value, fs' = fs.set i v → fs'.length = N → co_N x (pc + 3) L S ((a, .inr (ci, fs')) :: V) k n) : co_N x pc L (v :: .ref a :: S) ((a, .inr (ci, fs)) :: V) k n :=
  co_putF hx hin0 hd hin ty0 hty hnm hc hi hlink hsame hfin hdecl hd0 hn0 hfit (by rw [hl0]; exact hi) (kk _ rfl (by rw [List.length_set]; exact hl0))
theorem co_putL (hx : co_OK x cc own nL fr lo kc ks) {C : String} {T : u_T} {N ci i idx a : Nat} {fs : List Value} {v : Value} {ty : FieldType} (hd : decode cc pc = .ok (.putfield idx, 3)) (hin : ∀ w ∈ u_ws C T N, w ∈ bo_tb) (ty0 : Nat → FieldType) (hty : ∀ k, k < N → parseFieldDescriptor (T k).2.2.1 = some (ty0 k)) (hnm : ∀ a, a < N → ∀ b, b < N → a ≠ b → (T a).2.1 ≠ (T b).2.1) (hc : bo_cl[ci]? = some (C, T, N)) (hi : i < N) (hlink : Cond.fieldLink own idx C (T i).2.1 (T i).2.2.1 ∈ bo_tb) (hsame : (T i).1 = C) (hfin : (T i).2.2.2 = false) (hd0 : ty0 i = ty) (hn0 : narrow ty v = v) (hfit : fits ty v = true) (hl0 : fs.length = N)
    (kk : ∀ fs' : List Value, fs' = fs.set i v → fs'.length = N → co_N x (pc + 3) L S ((a, .inr (ci, fs')) :: V) k n) : co_N x pc L (v :: .ref a :: S) ((a, .inr (ci, fs)) :: V) k n :=
  co_put hx hd hin ty0 hty hnm hc hi hlink hsame hfin hd0 hn0 hfit (by rw [hl0]; exact hi) (kk _ rfl (by rw [List.length_set]; exact hl0))
theorem co_iload (hx : co_OK x cc own nL fr lo kc ks) {j : Fin 4} {i : Nat} {v : Int32} (hd : decode cc pc = .ok (.iload_n j, 1)) (hi : (j : Nat) = i) (q : Nat) (hq : L[q]? = some (i, .int v)) (kk : co_N x (pc + 1) L (.int v :: S) V k n) : co_N x pc L S V k n := by
  obtain ⟨p, l, e, R, s, m, args, below, meth, c, c3, D, A, Q⟩ := x
  obtain ⟨hex, hb, hml, hown, hts, hK, hNW, hA, hfr, hlo, hkc, hks⟩ := hx
  intro H locs ls hP hD hS hl
  exact lv_iload_n hex hb hd hi (lv_at hl q hq) (kk H locs ls hP hD hS hl)
theorem co_istore (hx : co_OK x cc own nL fr lo kc ks) {j : Fin 4} {i : Nat} {v : Int32} {L' : List (Nat × Value)} (hd : decode cc pc = .ok (.istore_n j, 1)) (hi : (j : Nat) = i) (hn : i < nL) (hL : (i, Value.int v) :: L.filter (fun q => !(q.1 == i) && !(q.1 + 1 == i && q.2.category == 2)) = L') (kk : co_N x (pc + 1) L' S V k n) : co_N x pc L (.int v :: S) V k n := by
  obtain ⟨p, l, e, R, s, m, args, below, meth, c, c3, D, A, Q⟩ := x
  obtain ⟨hex, hb, hml, hown, hts, hK, hNW, hA, hfr, hlo, hkc, hks⟩ := hx
  intro H locs ls hP hD hS hl
  exact lv_istore_n hex hb hd hi hl (by rw [hml]; exact hn) hL (fun ls' hl' => kk H locs ls' hP hD hS hl')
theorem co_astore (hx : co_OK x cc own nL fr lo kc ks) {j : Fin 4} {i v : Nat} {L' : List (Nat × Value)} (hd : decode cc pc = .ok (.astore_n j, 1)) (hi : (j : Nat) = i) (hn : i < nL) (hL : (i, Value.ref v) :: L.filter (fun q => !(q.1 == i) && !(q.1 + 1 == i && q.2.category == 2)) = L') (kk : co_N x (pc + 1) L' S V k n) : co_N x pc L (.ref v :: S) V k n := by
  obtain ⟨p, l, e, R, s, m, args, below, meth, c, c3, D, A, Q⟩ := x
  obtain ⟨hex, hb, hml, hown, hts, hK, hNW, hA, hfr, hlo, hkc, hks⟩ := hx
  intro H locs ls hP hD hS hl
  exact lv_astore_n hex hb hd hi hl (by rw [hml]; exact hn) hL (fun ls' hl' => kk H locs ls' hP hD hS hl')
theorem co_iinc (hx : co_OK x cc own nL fr lo kc ks) {i j : Nat} {z : Int} {v w : Int32} {L' : List (Nat × Value)} (hd : decode cc pc = .ok (.iinc i z, 3)) (hj : L[j]? = some (i, .int v)) (hv : v + Int32.ofInt z = w) (hn : i < nL) (hL : (i, Value.int w) :: L.filter (fun q => !(q.1 == i) && !(q.1 + 1 == i && q.2.category == 2)) = L') (kk : co_N x (pc + 3) L' S V k n) : co_N x pc L S V k n := by
  obtain ⟨p, l, e, R, s, m, args, below, meth, c, c3, D, A, Q⟩ := x
  obtain ⟨hex, hb, hml, hown, hts, hK, hNW, hA, hfr, hlo, hkc, hks⟩ := hx
  intro H locs ls hP hD hS hl
  exact lv_iinc hex hb hd hl hj hv (by rw [hml]; exact hn) hL (fun ls' hl' => kk H locs ls' hP hD hS hl')
theorem co_goto (hx : co_OK x cc own nL fr lo kc ks) {off : Int} (tgt : Nat) (hd : decode cc pc = .ok (.goto off, 3)) (ht : (pc : Int) + off = (tgt : Int)) (kk : co_N x tgt L S V k n) : co_N x pc L S V k n := by
  obtain ⟨p, l, e, R, s, m, args, below, meth, c, c3, D, A, Q⟩ := x
  obtain ⟨hex, hb, hml, hown, hts, hK, hNW, hA, hfr, hlo, hkc, hks⟩ := hx
  intro H locs ls hP hD hS hl
  exact lv_goto hex hb hd ht (kk H locs ls hP hD hS hl)
theorem co_icmp_ge (hx : co_OK x cc own nL fr lo kc ks) {a b : Int32} {off : Int} (tgt : Nat) (hd : decode cc pc = .ok (.if_icmp .ge off, 3)) (ht : (pc : Int) + off = (tgt : Int)) (kt : b ≤ a → co_N x tgt L S V k n) (kf : ¬ b ≤ a → co_N x (pc + 3) L S V k n) : co_N x pc L (.int b :: .int a :: S) V k n := by
  obtain ⟨p, l, e, R, s, m, args, below, meth, c, c3, D, A, Q⟩ := x
  obtain ⟨hex, hb, hml, hown, hts, hK, hNW, hA, hfr, hlo, hkc, hks⟩ := hx
  intro H locs ls hP hD hS hl
  exact lv_icmp_ge hex hb hd ht (fun h => kt h H locs ls hP hD hS hl) (fun h => kf h H locs ls hP hD hS hl)
theorem co_alen (hx : co_OK x cc own nL fr lo kc ks) {o : Nat × va_E} {a len : Nat} {f : Nat → Option Nat} {v : Int32} (hd : decode cc pc = .ok (.arraylength, 1)) (hv : Int32.ofNat len = v) (kk : co_N x (pc + 1) L (.int v :: S) (o :: (a, .inl (co_c3 x 2, len, .inr (.inr (.inr (.inr f))))) :: V) k n) : co_N x pc L (.ref a :: S) (o :: (a, .inl (co_c3 x 2, len, .inr (.inr (.inr (.inr f))))) :: V) k n := by
  obtain ⟨p, l, e, R, s, m, args, below, meth, c, c3, D, A, Q⟩ := x
  obtain ⟨hex, hb, hml, hown, hts, hK, hNW, hA, hfr, hlo, hkc, hks⟩ := hx
  intro H locs ls hP hD hS hl
  exact va_alen hex hb hK hP 1 2 rfl rfl hv hd (kk H locs ls hP hD hS hl)
theorem co_astq (hx : co_OK x cc own nL fr lo kc ks) {o : Nat × va_E} {a len v qk : Nat} {vs : List Value} {f : Nat → Option Nat} {i : Int32} (hd : decode cc pc = .ok (.aastore, 1)) (hin : vp_in i len) (hv : V[qk]? = some (v, .inr (2, vs))) (kk : co_N x (pc + 1) L S (o :: (a, .inl (co_c3 x 2, len, .inr (.inr (.inr (.inr (va_up f i.toNatClampNeg (some v))))))) :: V) k n) : co_N x pc L (.ref v :: .int i :: .ref a :: S) (o :: (a, .inl (co_c3 x 2, len, .inr (.inr (.inr (.inr f))))) :: V) k n := by
  obtain ⟨p, l, e, R, s, m, args, below, meth, c, c3, D, A, Q⟩ := x
  obtain ⟨hex, hb, hml, hown, hts, hK, hNW, hA, hfr, hlo, hkc, hks⟩ := hx
  intro H locs ls hP hD hS hl
  exact va_astq (r := (RX2, TX2, 10)) hex hb hK hP hD hS 1 2 (qk + 2) 2 rfl rfl (by rw [List.getElem?_cons_succ, List.getElem?_cons_succ]; exact hv) rfl hin hd (fun H1 locs1 hP1 hD1 hS1 => kk H1 locs1 ls hP1 hD1 hS1 hl)
end CONK
section CONIM
abbrev co_iE (e : Nat) : List Nat := [e, e + 1, e + 2, e + 3, e + 4]
theorem co_iE_cl {e : Nat} (h : bo_isEv e) : ∀ n ∈ co_iE e, ∀ r ∈ co_refs n, r ∈ co_iE e := by
  intro n hn r hr
  obtain ⟨⟨_, h0⟩, ⟨_, h1⟩, ⟨_, h2⟩, ⟨_, h3⟩, ⟨_, h4⟩⟩ := h.all
  simp only [co_iE, List.mem_cons, List.not_mem_nil, or_false] at hn
  unfold co_refs at hr
  rcases hn with rfl | rfl | rfl | rfl | rfl
  · rw [h0] at hr
    have hr : r ∈ [n + 1, n + 2, n + 3, n + 4] := hr
    exact List.mem_cons_of_mem _ hr
  · rw [h1] at hr; exact absurd hr List.not_mem_nil
  · rw [h2] at hr; exact absurd hr List.not_mem_nil
  · rw [h3] at hr; exact absurd hr List.not_mem_nil
  · rw [h4] at hr; exact absurd hr List.not_mem_nil
theorem co_iE_in {e n : Nat} (h : n ∈ co_iE e) : e ≤ n ∧ n < e + 5 := by
  simp only [co_iE, List.mem_cons, List.not_mem_nil, or_false] at h
  omega
theorem co_qM {i : Nat} (h : bo_isIm i) : co_q i := by rcases h with rfl | rfl <;> exact ⟨by omega, by omega, by omega, by omega⟩
set_option maxRecDepth 100000 in
set_option maxHeartbeats 4000000 in
theorem kIX3 (l : Launch) (c3 : Nat → ClassId) (D : va_G) (i : Nat) (hi : bo_isIm i) : co_C l c3 D yX3_init cX3_init 1 2 32 5 104 3 d0X3 (co_W c3 D (i :: co_iE (i + 1))) i := by
  refine co_met (by decide) rfl rfl (Nat.le_of_ble_eq_true rfl) ?_
  intro x h0 e1 e2 e3 hx hin fin
  subst e1; subst e2; subst e3
  refine co_aload (a := h0) hx dkX3_0 rfl 0 rfl ?_
  refine co_super hx dkX3_1 mlX3_1 (by decide) (by decide) ?_
  refine co_aload (a := h0) hx dkX3_4 rfl 0 rfl ?_
  refine co_make hx dkX3_5 dkX3_8 dkX3_9 in_X2 tyX2 tyX2_ok clX3_7 isX2 iiX2 rfl dfX2 mIX2 (Or.inr mlX3_9) (kIX2 _ _ _ (i + 1) hi.ev) (by decide) (Nat.le_of_ble_eq_true rfl) (Nat.le_of_ble_eq_true rfl) (Nat.le_of_ble_eq_true rfl) (fun ad => ?_)
  refine co_putF hx hin dkX3_12 in_X3 tyX3 tyX3_ok nmX3 rfl (Nat.le_of_ble_eq_true rfl) fkX3_10 rfl rfl rfl rfl rfl rfl (Nat.le_of_ble_eq_true rfl) ?_
  refine fin _ _ (fun n => if n = i then h0 else ad n) _ _ _ dkX3_15 ?_ (if_pos rfl) (Nat.le_of_ble_eq_true rfl) (Nat.le_of_ble_eq_true rfl)
  show _ = co_cell (co_c3 x) (co_G x) (fun n => if n = i then h0 else ad n) i :: co_W (co_c3 x) (co_G x) (co_iE (i + 1)) (fun n => if n = i then h0 else ad n)
  have e : co_W (co_c3 x) (co_G x) (co_iE (i + 1)) (fun n => if n = i then h0 else ad n) = co_W (co_c3 x) (co_G x) (co_iE (i + 1)) ad := co_W_cl (co_iE_cl hi.ev) (fun n hn => if_neg (by have := co_iE_in hn; omega))
  rw [e, co_ob hi.o (co_qM hi)]
  show _ = ((if i = i then h0 else ad i, .inr (3, [.ref (if i + 1 = i then h0 else ad (i + 1)), .int 0, .int (0 &&& 1)])) : Nat × va_E) :: _
  rw [if_pos rfl, if_neg (by omega)]
  rfl
set_option maxRecDepth 100000 in
set_option maxHeartbeats 4000000 in
theorem kIX9 (l : Launch) (c3 : Nat → ClassId) (D : va_G) : co_C l c3 D yX9_init cX9_init 1 2 32 6 296 8 d0X9 (co_W c3 D (17 :: (co_iE 18 ++ [23]))) 17 := by
  refine co_met (by decide) rfl rfl (Nat.le_of_ble_eq_true rfl) ?_
  intro x h0 e1 e2 e3 hx hin fin
  subst e1; subst e2; subst e3
  refine co_aload (a := h0) hx dkX9_0 rfl 0 rfl ?_
  refine co_super hx dkX9_1 mlX9_3 (by decide) (by decide) ?_
  refine co_aload (a := h0) hx dkX9_4 rfl 0 rfl ?_
  refine co_make hx dkX9_5 dkX9_8 dkX9_9 in_X2 tyX2 tyX2_ok clX9_9 isX2 iiX2 rfl dfX2 mIX2 (Or.inr mlX9_11) (kIX2 _ _ _ 18 bo_ev18) (by decide) (Nat.le_of_ble_eq_true rfl) (Nat.le_of_ble_eq_true rfl) (Nat.le_of_ble_eq_true rfl) (fun ad => ?_)
  refine co_putF hx hin dkX9_12 in_X9 tyX9 tyX9_ok nmX9 rfl (Nat.le_of_ble_eq_true rfl) fkX9_12 rfl rfl rfl rfl rfl rfl (Nat.le_of_ble_eq_true rfl) ?_
  refine co_aload (a := h0) hx dkX9_15 rfl 0 rfl ?_
  refine co_sipush (v := 192) hx dkX9_16 (by decide) ?_
  refine co_arr (len := 192) hx dkX9_19 (by decide) (by decide) (Nat.le_of_ble_eq_true rfl) (Nat.le_of_ble_eq_true rfl) (Nat.le_of_ble_eq_true rfl) (fun q => ?_)
  refine co_putF hx hin dkX9_21 in_X9 tyX9 tyX9_ok nmX9 rfl (Nat.le_of_ble_eq_true rfl) fkX9_18 rfl rfl rfl rfl rfl rfl (Nat.le_of_ble_eq_true rfl) ?_
  refine fin _ _ (fun n => if n = 17 then h0 else if n = 23 then q else ad n) _ _ _ dkX9_24 ?_ rfl (Nat.le_of_ble_eq_true rfl) (Nat.le_of_ble_eq_true rfl)
  show _ = co_cell (co_c3 x) (co_G x) (fun n => if n = 17 then h0 else if n = 23 then q else ad n) 17 :: (co_W (co_c3 x) (co_G x) (co_iE 18 ++ [23]) (fun n => if n = 17 then h0 else if n = 23 then q else ad n))
  have e : co_W (co_c3 x) (co_G x) (co_iE 18) (fun n => if n = 17 then h0 else if n = 23 then q else ad n) = co_W (co_c3 x) (co_G x) (co_iE 18) ad := co_W_cl (co_iE_cl bo_ev18) (fun n hn => by have := co_iE_in hn; rw [if_neg (by omega), if_neg (by omega)])
  rw [co_W_app, e, co_ob bo_o_17 (by decide)]
  show _ = _ :: (_ ++ [co_cell (co_c3 x) (co_G x) (fun n => if n = 17 then h0 else if n = 23 then q else ad n) 23])
  rw [co_ar bo_c_23 (by decide)]
  rfl
end CONIM
