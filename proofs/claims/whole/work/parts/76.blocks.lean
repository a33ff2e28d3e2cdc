/-! blocks of the world, by their objects' numbers -/
section COW
def co_cell (c3 : Nat → ClassId) (D : va_G) (ad : Nat → Nat) (n : Nat) : Nat × va_E := (ad n, bo_cell (c3, D, ad) n (in_s0 n) (bo_lay n))
def co_W (c3 : Nat → ClassId) (D : va_G) (ids : List Nat) (ad : Nat → Nat) : va_W := ids.map (co_cell c3 D ad)
variable {c3 : Nat → ClassId} {D : va_G} {ad ad' : Nat → Nat} {n : Nat} {ids : List Nat}
theorem co_W_app {a b : List Nat} : co_W c3 D (a ++ b) ad = co_W c3 D a ad ++ co_W c3 D b ad := List.map_append
theorem co_W_len : (co_W c3 D ids ad).length = ids.length := List.length_map _
def co_rt (n : Nat) (t : Nat × Nat) : List Nat := match t.1 with
  | 0 => []
  | 1 => []
  | 2 => [n + t.2]
  | _ => [34, 42]
def co_rL (n : Nat) (L : bo_Lay) : List Nat := match L with
  | .inl (0, _) => []
  | .inl (1, _) => []
  | .inl (_, _) => (List.range 16).map (fun j => 55 + 5 * j)
  | .inr (_, ts) => ts.flatMap (co_rt n)
def co_refs (n : Nat) : List Nat := co_rL n (bo_lay n)
theorem co_fv_congr {f : Nat → Int32} {k : Nat} : ∀ (t : Nat × Nat), (∀ r ∈ co_rt n t, ad r = ad' r) → bo_fv ad n f k t = bo_fv ad' n f k t
  | (0, _), _ => rfl
  | (1, _), _ => rfl
  | (2, b), h => by
    show Value.ref (ad (n + b)) = Value.ref (ad' (n + b))
    rw [h (n + b) (List.mem_singleton.mpr rfl)]
  | (_ + 3, _), h => by
    show Value.ref (ad (bo_inn (f k))) = Value.ref (ad' (bo_inn (f k)))
    rw [h (bo_inn (f k)) (by
      show bo_inn (f k) ∈ [34, 42]
      rcases bo_inn_ok (f k) with e | e <;> rw [e] <;> simp)]
theorem co_fvs_congr {f : Nat → Int32} : ∀ (ts : List (Nat × Nat)) (k : Nat), (∀ r ∈ ts.flatMap (co_rt n), ad r = ad' r) → bo_fvs ad n f k ts = bo_fvs ad' n f k ts
  | [], _, _ => rfl
  | t :: ts, k, h => by
    show bo_fv ad n f k t :: bo_fvs ad n f (k + 1) ts = bo_fv ad' n f k t :: bo_fvs ad' n f (k + 1) ts
    rw [co_fvs_congr ts (k + 1) (fun r hr => h r (by rw [List.flatMap_cons]; exact List.mem_append_right _ hr)), co_fv_congr t (fun r hr => h r (by rw [List.flatMap_cons]; exact List.mem_append_left _ hr))]
theorem co_ev_mem (v : Int32) : bo_ev v ∈ (List.range 16).map (fun j => 55 + 5 * j) := List.mem_map.mpr ⟨v.toNatClampNeg % 16, List.mem_range.mpr (by omega), rfl⟩
theorem co_cell_congr (h : ad n = ad' n) (h2 : ∀ r ∈ co_refs n, ad r = ad' r) : co_cell c3 D ad n = co_cell c3 D ad' n := by
  unfold co_refs at h2
  unfold co_cell
  rw [h]
  congr 1
  generalize bo_lay n = Ly at h2 ⊢
  match Ly, h2 with
  | .inl (0, _), _ => rfl
  | .inl (1, _), _ => rfl
  | .inl (_ + 2, len), h2 =>
    have e : (fun k => some (ad (bo_ev (in_s0 n k)))) = fun k => some (ad' (bo_ev (in_s0 n k))) := funext fun k => by rw [h2 _ (co_ev_mem _)]
    exact congrArg (fun z : Nat → Option Nat => ((.inl (c3 2, len, .inr (.inr (.inr (.inr z))))) : va_E)) e
  | .inr (ci, ts), h2 =>
    show Sum.inr (ci, bo_fvs ad n (in_s0 n) 0 ts) = Sum.inr (ci, bo_fvs ad' n (in_s0 n) 0 ts)
    rw [co_fvs_congr ts 0 h2]
theorem co_W_congr (h : ∀ n ∈ ids, ad n = ad' n) (h2 : ∀ n ∈ ids, ∀ r ∈ co_refs n, ad r = ad' r) : co_W c3 D ids ad = co_W c3 D ids ad' := List.map_congr_left (fun n hn => co_cell_congr (h n hn) (h2 n hn))
theorem co_W_cl (hcl : ∀ n ∈ ids, ∀ r ∈ co_refs n, r ∈ ids) (h : ∀ n ∈ ids, ad n = ad' n) : co_W c3 D ids ad = co_W c3 D ids ad' := co_W_congr h (fun n hn r hr => h r (hcl n hn r hr))
abbrev co_q (n : Nat) : Prop := n ≠ 0 ∧ n ≠ 1 ∧ n ≠ 4 ∧ n ≠ 135
theorem co_zf (h : co_q n) : in_s0 n = fun _ => 0 := funext fun b => in_s0_z h.2.2.1 (fun z => h.2.1 z.1) (fun z => h.2.2.2 z.1) (fun z => h.1 z.1)
theorem co_ar {len : Nat} (h : bo_isA n len) (hz : co_q n) : co_cell c3 D ad n = (ad n, .inl (c3 0, len, .inl (fun _ => 0))) := by
  unfold co_cell
  rw [h.2, co_zf hz]
  rfl
theorem co_az {len : Nat} (h : bo_lay n = .inl (1, len)) (hz : co_q n) : co_cell c3 D ad n = (ad n, .inl (c3 1, len, .inl (fun _ => 0))) := by
  unfold co_cell
  rw [h, co_zf hz]
  rfl
theorem co_ob {ci : Nat} {ts : List (Nat × Nat)} (h : bo_isO n ci ts) (hz : co_q n) : co_cell c3 D ad n = (ad n, .inr (ci, bo_fvs ad n (fun _ => 0) 0 ts)) := by
  unfold co_cell
  rw [h.2, co_zf hz]
  rfl
theorem co_ob' {ci : Nat} {ts : List (Nat × Nat)} (h : bo_isO n ci ts) : co_cell c3 D ad n = (ad n, .inr (ci, bo_fvs ad n (in_s0 n) 0 ts)) := by
  unfold co_cell
  rw [h.2]
  rfl
def co_ad (b : Nat) (l : List Nat) (n : Nat) : Nat := l.getD (n - b) 0
theorem co_ad_at (b : Nat) (l : List Nat) (j : Nat) : co_ad b l (b + j) = l.getD j 0 := by unfold co_ad; rw [Nat.add_sub_cancel_left]
theorem co_ad_0 (b : Nat) (l : List Nat) : co_ad b l b = l.getD 0 0 := co_ad_at b l 0
theorem co_qI {i : Nat} (h : bo_isInn i) (j : Nat) (hj : j < 8) : co_q (i + j) := by rcases h with rfl | rfl <;> exact ⟨by omega, by omega, by omega, by omega⟩
theorem co_qE {i : Nat} (h : bo_isEv i) (j : Nat) (hj : j < 5) : co_q (i + j) := by rcases h with rfl | rfl | rfl | ⟨k, hk, rfl⟩ <;> exact ⟨by omega, by omega, by omega, by omega⟩
end COW
section COR
variable {x : co_X} {cc : ByteArray} {own : String} {nL fr lo kc ks : Nat} {pc : Nat} {L : List (Nat × Value)} {S : List Value} {V : va_W} {k n : Nat}
theorem co_arr (hx : co_OK x cc own nL fr lo kc ks) {o : Nat × va_E} {v : Int32} {len : Nat} (hd : decode cc pc = .ok (.newarray .int, 2)) (hn : ¬ v < 0) (hN : v.toNatClampNeg = len) (hby : len * 4 ≤ 536870912) (hk : k + 1 ≤ kc) (hs : n + len ≤ ks)
    (kk : ∀ q, co_N x (pc + 2) L (.ref q :: S) (o :: (V ++ [(q, .inl (co_c3 x 0, len, .inl (fun _ => 0)))])) (k + 1) (n + len)) : co_N x pc L (.int v :: S) (o :: V) k n := co_newa hx hd hn hN hby hk hs kk
theorem co_arz (hx : co_OK x cc own nL fr lo kc ks) {o : Nat × va_E} {v : Int32} {len : Nat} (hd : decode cc pc = .ok (.newarray .boolean, 2)) (hn : ¬ v < 0) (hN : v.toNatClampNeg = len) (hby : len * componentBytes .boolean ≤ 536870912) (hk : k + 1 ≤ kc) (hs : n + len ≤ ks)
    (kk : ∀ q, co_N x (pc + 2) L (.ref q :: S) (o :: (V ++ [(q, .inl (co_c3 x 1, len, .inl (fun _ => 0)))])) (k + 1) (n + len)) : co_N x pc L (.int v :: S) (o :: V) k n := co_newz hx hd hn hN hby hk hs kk
/-- new, dup, the call: an object of its own block -/
theorem co_make (hx : co_OK x cc own nL fr lo kc ks) {o : Nat × va_E} {C : String} {T : u_T} {N ci i1 i2 : Nat} {d0 : List Value} (hd1 : decode cc pc = .ok (.new i1, 3)) (hd2 : decode cc (pc + 3) = .ok (.dup, 1)) (hd3 : decode cc (pc + 4) = .ok (.invokespecial i2, 3))
    (hin : ∀ w ∈ u_ws C T N, w ∈ bo_tb) (ty : Nat → FieldType) (hty : ∀ k, k < N → parseFieldDescriptor (T k).2.2.1 = some (ty k)) (hcl : Cond.classLink own i1 C ∈ bo_tb) (hinst : Cond.instantiable C N ∈ bo_tb) (hini : Cond.initialized C ∈ bo_tb) (hc : bo_cl[ci]? = some (C, T, N)) (hfs : ∀ j, j < N → defaultValue (ty j) = vp_V d0 j)
    {y : MethodName} {cy : ByteArray} {ny fy ly mc ms r : Nat} {bk : (Nat → Nat) → va_W} (hm : co_mI y cy ny) (hlink : Cond.methodLink own i2 y ∈ bo_tb ∨ (own, i2, y) ∈ bo_nests) (hC : co_C (co_l x) (co_c3 x) (co_G x) y cy ny fy ly mc ms ci d0 bk r) (hroom : fy + 1 ≤ fr ∧ 8 + (ny + 11) + ly ≤ lo) (hcat : (S.map fun v => v.category).sum ≤ 7) (hk : k + 1 + mc ≤ kc) (hs : n + N + ms ≤ ks)
    (kk : ∀ ad, co_N x (pc + 7) L (.ref (ad r) :: S) (o :: (V ++ bk ad)) (k + 1 + mc) (n + N + ms)) : co_N x pc L S (o :: V) k n := by
  refine co_new hx hd1 hin ty hty hcl hinst hini hc hfs (by omega) (by omega) (fun q => ?_)
  refine co_dup hx hd2 ?_
  refine co_call hx hd3 hm hlink hC hroom (S := .ref q :: S) ?_ hk hs (fun ad h => ?_)
  · show 1 + (S.map fun v => v.category).sum ≤ 8
    omega
  · subst h
    exact kk ad
theorem co_conv {V' : va_W} (h1 : ∀ H, va_P (co_G x) bo_cl V H → va_P (co_G x) bo_cl V' H) (h2 : ∀ A : Nat → Prop, va_D A V → va_D A V') (kk : co_N x pc L S V' k n) : co_N x pc L S V k n := by
  obtain ⟨p, l, e, R, s, m, args, below, meth, c, c3, D, A, Q⟩ := x
  intro H locs ls hP hD hS hl
  exact kk H locs ls (h1 H hP) (h2 A hD) hS hl
end COR
