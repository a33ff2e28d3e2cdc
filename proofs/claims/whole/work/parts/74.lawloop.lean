/-! the law: its loop -/
section LAWLOOP
variable {x : bo_X} {b n : Nat} {xs : Nat → Int32} {σ : bo_M} {i : Int32} {pc : Nat} {L : List (Nat × Value)} {S : List Value}
theorem lI_0 (h : in_all σ) (p q : Int32) : ∃ σ', lS_0 σ p q = some σ' ∧ in_all σ' := by
  obtain ⟨r, σ1, σ2, h1, h2, h3⟩ := st_feed h p
  refine ⟨σ2, ?_, h3⟩
  unfold lS_0
  rw [h1, Option.bind_some]
  dsimp only
  rw [h2, Option.bind_some]
  dsimp only
  rw [if_pos rfl]
theorem lI_1 (h : in_all σ) (p q : Int32) : ∃ σ', lS_1 σ p q = some σ' ∧ in_all σ' := by
  obtain ⟨r, σ1, σ2, h1, h2, h3⟩ := st_inn h
  refine ⟨σ2, ?_, h3⟩
  unfold lS_1
  rw [h1, Option.bind_some]
  dsimp only
  rw [h2, Option.bind_some]
  dsimp only
  rw [if_pos rfl]
theorem lI_2 (h : in_all σ) (p q : Int32) : ∃ σ', lS_2 σ p q = some σ' ∧ in_all σ' := by
  obtain ⟨r, h1, h2⟩ := st_fault h
  refine ⟨σ, ?_, h⟩
  unfold lS_2
  rw [h1, Option.bind_some, h2, Option.bind_some, if_pos rfl]
theorem lI_3 (h : in_all σ) (p q : Int32) : ∃ σ', lS_3 σ p q = some σ' ∧ in_all σ' := by
  obtain ⟨r, h1, h2⟩ := st_told h p
  refine ⟨σ, ?_, h⟩
  unfold lS_3
  rw [h1, Option.bind_some, h2, Option.bind_some, if_pos rfl]
theorem lI_4 (h : in_all σ) (p q : Int32) : ∃ σ', lS_4 σ p q = some σ' ∧ in_all σ' := by
  obtain ⟨r, h1, h2⟩ := st_drinker h p q
  refine ⟨σ, ?_, h⟩
  unfold lS_4
  rw [h1, Option.bind_some, h2, Option.bind_some, if_pos rfl]
theorem lI_5 (h : in_all σ) (p q : Int32) : ∃ σ', lS_5 σ p q = some σ' ∧ in_all σ' := by
  obtain ⟨r, h1, h2⟩ := st_goer h p q
  refine ⟨σ, ?_, h⟩
  unfold lS_5
  rw [h1, Option.bind_some, h2, Option.bind_some, if_pos rfl]
theorem lI_6 (h : in_all σ) (p q : Int32) : ∃ σ', lS_6 σ p q = some σ' ∧ in_all σ' := by
  obtain ⟨r, h1, h2⟩ := st_signal h p
  refine ⟨σ, ?_, h⟩
  unfold lS_6
  rw [h1, Option.bind_some, h2, Option.bind_some, if_pos rfl]
theorem lI_7 (h : in_all σ) (p q : Int32) : ∃ σ', lS_7 σ p q = some σ' ∧ in_all σ' := by
  obtain ⟨r, h1, h2⟩ := st_logged h p q
  refine ⟨σ, ?_, h⟩
  unfold lS_7
  rw [h1, Option.bind_some, h2, Option.bind_some, if_pos rfl]
theorem lI_8 (h : in_all σ) (p q : Int32) : ∃ σ', lS_8 σ p q = some σ' ∧ in_all σ' := by
  obtain ⟨r, σ1, σ2, h1, h2, h3⟩ := st_quarter h p
  refine ⟨σ2, ?_, h3⟩
  unfold lS_8
  rw [h1, Option.bind_some]
  dsimp only
  rw [h2, Option.bind_some]
  dsimp only
  rw [if_pos rfl]
theorem lI_9 (h : in_all σ) (p q : Int32) : ∃ σ', lS_9 σ p q = some σ' ∧ in_all σ' := by
  obtain ⟨r, σ1, σ2, h1, h2, h3⟩ := st_come h p
  refine ⟨σ2, ?_, h3⟩
  unfold lS_9
  rw [h1, Option.bind_some]
  dsimp only
  rw [h2, Option.bind_some]
  dsimp only
  rw [if_pos rfl]
theorem lI_10 (h : in_all σ) (p q : Int32) : ∃ σ', lS_10 σ p q = some σ' ∧ in_all σ' := by
  obtain ⟨r, σ1, σ2, h1, h2, h3⟩ := st_go h p
  refine ⟨σ2, ?_, h3⟩
  unfold lS_10
  rw [h1, Option.bind_some]
  dsimp only
  rw [h2, Option.bind_some]
  dsimp only
  rw [if_pos rfl]
theorem lI_11 (h : in_all σ) (p q : Int32) : ∃ σ', lS_11 σ p q = some σ' ∧ in_all σ' := by
  obtain ⟨r, σ1, σ2, h1, h2, h3⟩ := st_treat h p q
  refine ⟨σ2, ?_, h3⟩
  unfold lS_11
  rw [h1, Option.bind_some]
  dsimp only
  rw [h2, Option.bind_some]
  dsimp only
  rw [if_pos rfl]
theorem lI_12 (h : in_all σ) (p q : Int32) : ∃ σ', lS_12 σ p q = some σ' ∧ in_all σ' := by
  obtain ⟨r, σ1, σ2, h1, h2, h3⟩ := st_turn h p q
  refine ⟨σ2, ?_, h3⟩
  unfold lS_12
  rw [h1, Option.bind_some]
  dsimp only
  rw [h2, Option.bind_some]
  dsimp only
  rw [if_pos rfl]
theorem lI_13 (h : in_all σ) (p q : Int32) : ∃ σ', lS_13 σ p q = some σ' ∧ in_all σ' := by
  obtain ⟨r, σ1, σ2, h1, h2, h3⟩ := st_hang h p
  refine ⟨σ2, ?_, h3⟩
  unfold lS_13
  rw [h1, Option.bind_some]
  dsimp only
  rw [h2, Option.bind_some]
  dsimp only
  rw [if_pos rfl]
theorem lI_14 (h : in_all σ) (p q : Int32) : ∃ σ', lS_14 σ p q = some σ' ∧ in_all σ' := by
  obtain ⟨r, σ1, σ2, h1, h2, h3⟩ := st_rain h p
  refine ⟨σ2, ?_, h3⟩
  unfold lS_14
  rw [h1, Option.bind_some]
  dsimp only
  rw [h2, Option.bind_some]
  dsimp only
  rw [if_pos rfl]
theorem lI_15 (h : in_all σ) (p q : Int32) : ∃ σ', lS_15 σ p q = some σ' ∧ in_all σ' := by
  obtain ⟨r, σ1, σ2, h1, h2, h3⟩ := st_drift h p
  refine ⟨σ2, ?_, h3⟩
  unfold lS_15
  rw [h1, Option.bind_some]
  dsimp only
  rw [h2, Option.bind_some]
  dsimp only
  rw [if_pos rfl]
theorem lI_16 (h : in_all σ) (p q : Int32) : ∃ σ', lS_16 σ p q = some σ' ∧ in_all σ' := by
  obtain ⟨r, σ1, σ2, h1, h2, h3⟩ := st_undo h
  refine ⟨σ2, ?_, h3⟩
  unfold lS_16
  rw [h1, Option.bind_some]
  dsimp only
  rw [h2, Option.bind_some]
  dsimp only
  rw [if_pos rfl]
theorem lI_17 (h : in_all σ) (p q : Int32) : ∃ σ', lS_17 σ p q = some σ' ∧ in_all σ' := by
  obtain ⟨r, σ1, σ2, h1, h2, h3⟩ := st_strikes h p
  refine ⟨σ2, ?_, h3⟩
  unfold lS_17
  rw [h1, Option.bind_some]
  dsimp only
  rw [h2, Option.bind_some]
  dsimp only
  rw [if_pos rfl]
theorem lI_18 (h : in_all σ) (p q : Int32) : ∃ σ', lS_18 σ p q = some σ' ∧ in_all σ' := by
  obtain ⟨r, σ1, σ2, h1, h2, h3⟩ := st_when h p
  refine ⟨σ2, ?_, h3⟩
  unfold lS_18
  rw [h1, Option.bind_some]
  dsimp only
  rw [h2, Option.bind_some]
  dsimp only
  rw [if_pos rfl]
theorem lI_19 (h : in_all σ) (p q : Int32) : ∃ σ', lS_19 σ p q = some σ' ∧ in_all σ' := by
  obtain ⟨r, σ1, σ2, h1, h2, h3⟩ := st_hour h p
  refine ⟨σ2, ?_, h3⟩
  unfold lS_19
  rw [h1, Option.bind_some]
  dsimp only
  rw [h2, Option.bind_some]
  dsimp only
  rw [if_pos rfl]
theorem lI_20 (h : in_all σ) (p q : Int32) : ∃ σ', lS_20 σ p q = some σ' ∧ in_all σ' := by
  obtain ⟨r, σ1, σ2, h1, h2, h3⟩ := st_noon h
  refine ⟨σ2, ?_, h3⟩
  unfold lS_20
  rw [h1, Option.bind_some]
  dsimp only
  rw [h2, Option.bind_some]
  dsimp only
  rw [if_pos rfl]
theorem lI_21 (h : in_all σ) (p q : Int32) : ∃ σ', lS_21 σ p q = some σ' ∧ in_all σ' := by
  obtain ⟨r, σ1, σ2, h1, h2, h3⟩ := st_late h p
  refine ⟨σ2, ?_, h3⟩
  unfold lS_21
  rw [h1, Option.bind_some]
  dsimp only
  rw [h2, Option.bind_some]
  dsimp only
  rw [if_pos rfl]
theorem lI_22 (h : in_all σ) (p q : Int32) : ∃ σ', lS_22 σ p q = some σ' ∧ in_all σ' := by
  obtain ⟨r, σ1, σ2, h1, h2, h3⟩ := st_best h p
  refine ⟨σ2, ?_, h3⟩
  unfold lS_22
  rw [h1, Option.bind_some]
  dsimp only
  rw [h2, Option.bind_some]
  dsimp only
  rw [if_pos rfl]
theorem lI_23 (h : in_all σ) (p q : Int32) : ∃ σ', lS_23 σ p q = some σ' ∧ in_all σ' := by
  obtain ⟨r, σ1, σ2, h1, h2, h3⟩ := st_alone h p
  refine ⟨σ2, ?_, h3⟩
  unfold lS_23
  rw [h1, Option.bind_some]
  dsimp only
  rw [h2, Option.bind_some]
  dsimp only
  rw [if_pos rfl]
theorem lI_24 (h : in_all σ) (p q : Int32) : ∃ σ', lS_24 σ p q = some σ' ∧ in_all σ' := by
  obtain ⟨r, σ1, σ2, h1, h2, h3⟩ := st_given h p
  refine ⟨σ2, ?_, h3⟩
  unfold lS_24
  rw [h1, Option.bind_some]
  dsimp only
  rw [h2, Option.bind_some]
  dsimp only
  rw [if_pos rfl]
theorem lI_25 (h : in_all σ) (p q : Int32) : ∃ σ', lS_25 σ p q = some σ' ∧ in_all σ' := by
  obtain ⟨r, h1, h2⟩ := st_mistaken h
  refine ⟨σ, ?_, h⟩
  unfold lS_25
  rw [h1, Option.bind_some, h2, Option.bind_some, if_pos rfl]
theorem lI_26 (h : in_all σ) (p q : Int32) : ∃ σ', lS_26 σ p q = some σ' ∧ in_all σ' := by
  obtain ⟨r, h1, h2⟩ := st_vespers h p q
  refine ⟨σ, ?_, h⟩
  unfold lS_26
  rw [h1, Option.bind_some, h2, Option.bind_some, if_pos rfl]
theorem lI_27 (h : in_all σ) (p q : Int32) : ∃ σ', lS_27 σ p q = some σ' ∧ in_all σ' := by
  obtain ⟨r, σ1, σ2, h1, h2, h3⟩ := st_ship h p
  refine ⟨σ2, ?_, h3⟩
  unfold lS_27
  rw [h1, Option.bind_some]
  dsimp only
  rw [h2, Option.bind_some]
  dsimp only
  rw [if_pos rfl]
theorem lI_28 (h : in_all σ) (p q : Int32) : ∃ σ', lS_28 σ p q = some σ' ∧ in_all σ' := by
  obtain ⟨r, h1, h2⟩ := st_widows h p
  refine ⟨σ, ?_, h⟩
  unfold lS_28
  rw [h1, Option.bind_some, h2, Option.bind_some, if_pos rfl]
theorem lI_29 (h : in_all σ) (p q : Int32) : ∃ σ', lS_29 σ p q = some σ' ∧ in_all σ' := by
  obtain ⟨r, σ1, σ2, h1, h2, h3⟩ := st_odds h p
  refine ⟨σ2, ?_, h3⟩
  unfold lS_29
  rw [h1, Option.bind_some]
  dsimp only
  rw [h2, Option.bind_some]
  dsimp only
  rw [if_pos rfl]
theorem lI_30 (h : in_all σ) (p q : Int32) : ∃ σ', lS_30 σ p q = some σ' ∧ in_all σ' := by
  obtain ⟨r, h1, h2⟩ := st_most h
  refine ⟨σ, ?_, h⟩
  unfold lS_30
  rw [h1, Option.bind_some, h2, Option.bind_some, if_pos rfl]
theorem lI_31 (h : in_all σ) (p q : Int32) : ∃ σ', lS_31 σ p q = some σ' ∧ in_all σ' := by
  obtain ⟨r, h1, h2⟩ := st_round h
  refine ⟨σ, ?_, h⟩
  unfold lS_31
  rw [h1, Option.bind_some, h2, Option.bind_some, if_pos rfl]
theorem lI_32 (h : in_all σ) (p q : Int32) : ∃ σ', lS_32 σ p q = some σ' ∧ in_all σ' := by
  obtain ⟨r, h1, h2⟩ := st_share h p
  refine ⟨σ, ?_, h⟩
  unfold lS_32
  rw [h1, Option.bind_some, h2, Option.bind_some, if_pos rfl]
theorem lI_33 (h : in_all σ) (p q : Int32) : ∃ σ', lS_33 σ p q = some σ' ∧ in_all σ' := by
  obtain ⟨r, σ1, σ2, h1, h2, h3⟩ := st_was h p q
  refine ⟨σ2, ?_, h3⟩
  unfold lS_33
  rw [h1, Option.bind_some]
  dsimp only
  rw [h2, Option.bind_some]
  dsimp only
  rw [if_pos rfl]
theorem lI_34 (h : in_all σ) (p q : Int32) : ∃ σ', lS_34 σ p q = some σ' ∧ in_all σ' := by
  obtain ⟨r, σ1, h1, h2, h3⟩ := st_could h p
  refine ⟨σ1, ?_, h3⟩
  unfold lS_34
  rw [h1, Option.bind_some]
  dsimp only
  rw [h2, Option.bind_some, if_pos rfl]
theorem lI_35 (h : in_all σ) (p q : Int32) : ∃ σ', lS_35 σ p q = some σ' ∧ in_all σ' := by
  obtain ⟨r, σ1, σ2, h1, h2, h3⟩ := st_listen h
  refine ⟨σ2, ?_, h3⟩
  unfold lS_35
  rw [h1, Option.bind_some]
  dsimp only
  rw [h2, Option.bind_some]
  dsimp only
  rw [if_pos rfl]
theorem lI_36 (h : in_all σ) (p q : Int32) : ∃ σ', lS_36 σ p q = some σ' ∧ in_all σ' := by
  obtain ⟨r, h1, h2⟩ := st_muffled h
  refine ⟨σ, ?_, h⟩
  unfold lS_36
  rw [h1, Option.bind_some, h2, Option.bind_some, if_pos rfl]
theorem lI_37 (h : in_all σ) (p q : Int32) : ∃ σ', lS_37 σ p q = some σ' ∧ in_all σ' := by
  obtain ⟨r, σ1, σ2, h1, h2, h3⟩ := st_write h p q
  refine ⟨σ2, ?_, h3⟩
  unfold lS_37
  rw [h1, Option.bind_some]
  dsimp only
  rw [h2, Option.bind_some]
  dsimp only
  rw [if_pos rfl]
theorem lI_38 (h : in_all σ) (p q : Int32) : ∃ σ', lS_38 σ p q = some σ' ∧ in_all σ' := by
  obtain ⟨r, σ1, σ2, h1, h2, h3⟩ := st_tear h
  refine ⟨σ2, ?_, h3⟩
  unfold lS_38
  rw [h1, Option.bind_some]
  dsimp only
  rw [h2, Option.bind_some]
  dsimp only
  rw [if_pos rfl]
theorem lI_39 (h : in_all σ) (p q : Int32) : ∃ σ', lS_39 σ p q = some σ' ∧ in_all σ' := by
  obtain ⟨r, h1, h2⟩ := st_judge h
  refine ⟨σ, ?_, h⟩
  unfold lS_39
  rw [h1, Option.bind_some, h2, Option.bind_some, if_pos rfl]
theorem lI_40 (h : in_all σ) (p q : Int32) : ∃ σ', lS_40 σ p q = some σ' ∧ in_all σ' := by
  obtain ⟨r, σ1, σ2, h1, h2, h3⟩ := st_seed h p
  refine ⟨σ2, ?_, h3⟩
  unfold lS_40
  rw [h1, Option.bind_some]
  dsimp only
  rw [h2, Option.bind_some]
  dsimp only
  rw [if_pos rfl]
theorem lI_41 (h : in_all σ) (p q : Int32) : ∃ σ', lS_41 σ p q = some σ' ∧ in_all σ' := by
  obtain ⟨r, σ1, σ2, h1, h2, h3⟩ := st_keep h p
  refine ⟨σ2, ?_, h3⟩
  unfold lS_41
  rw [h1, Option.bind_some]
  dsimp only
  rw [h2, Option.bind_some]
  dsimp only
  rw [if_pos rfl]
theorem lI_42 (h : in_all σ) (p q : Int32) : ∃ σ', lS_42 σ p q = some σ' ∧ in_all σ' := by
  obtain ⟨r, σ1, σ2, h1, h2, h3⟩ := st_goBack h p
  refine ⟨σ2, ?_, h3⟩
  unfold lS_42
  rw [h1, Option.bind_some]
  dsimp only
  rw [h2, Option.bind_some]
  dsimp only
  rw [if_pos rfl]
theorem dL_18 : decode cL 18 = .ok (.iload_n 3, 1) := by decide +kernel
theorem dL_19 : decode cL 19 = .ok (.aload_n 0, 1) := by decide +kernel
theorem dL_20 : decode cL 20 = .ok (.arraylength, 1) := by decide +kernel
theorem dL_21 : decode cL 21 = .ok (.iconst 3, 1) := by decide +kernel
theorem dL_22 : decode cL 22 = .ok (.isub, 1) := by decide +kernel
theorem dL_23 : decode cL 23 = .ok (.if_icmp .gt 1162, 3) := by decide +kernel
theorem dL_26 : decode cL 26 = .ok (.aload_n 0, 1) := by decide +kernel
theorem dL_27 : decode cL 27 = .ok (.iload_n 3, 1) := by decide +kernel
theorem dL_28 : decode cL 28 = .ok (.iaload, 1) := by decide +kernel
theorem dL_29 : decode cL 29 = .ok (.bipush 63, 2) := by decide +kernel
theorem dL_31 : decode cL 31 = .ok (.iand, 1) := by decide +kernel
theorem dL_1179 : decode cL 1179 = .ok (.iinc 3 3, 3) := by decide +kernel
theorem dL_1182 : decode cL 1182 = .ok (.goto (-1164), 3) := by decide +kernel
theorem dL_1185 : decode cL 1185 = .ok (.iconst 1, 1) := by decide +kernel
theorem dL_32 : decode cL 32 = .ok (.tableswitch 1147 0 42 #[188, 211, 224, 237, 260, 293, 326, 349, 382, 405, 428, 451, 484, 517, 540, 563, 586, 599, 622, 645, 668, 681, 704, 727, 750, 773, 786, 819, 842, 865, 888, 901, 914, 937, 970, 993, 1006, 1019, 1052, 1065, 1078, 1101, 1124], 188) := by decide +kernel
theorem lw_toN (h : bo_D x pc L S σ (some ()) (fun _ => True)) : bo_N x pc L S σ := h () rfl trivial
theorem lw_ofN (h : bo_N x pc L S σ) : bo_D x pc L S σ (some ()) (fun _ => True) := fun _ _ _ => h
theorem lw_cases (hx : bo_OK x cL "BellRopeLaw" 4 9 320) (hs : sc x b n xs) (hin1 : vp_in (i + 1) n) (hin2 : vp_in (i + 2) n) (h : in_all σ) (w : Int32) (go : ∀ σ', in_all σ' → bo_N x 1179 (lawL x b i) [] σ') : bo_D x 32 (lawL x b i) [.int w] σ (some ()) (fun _ => True) := by
  by_cases hw : 0 ≤ w ∧ w ≤ 42
  · obtain ⟨m, hm, -, hm2⟩ := bq_rng (a := 0) (b := 42) hw.1 hw.2 (by decide) (by decide)
    rcases (show m = 0 ∨ m = 1 ∨ m = 2 ∨ m = 3 ∨ m = 4 ∨ m = 5 ∨ m = 6 ∨ m = 7 ∨ m = 8 ∨ m = 9 ∨ m = 10 ∨ m = 11 ∨ m = 12 ∨ m = 13 ∨ m = 14 ∨ m = 15 ∨ m = 16 ∨ m = 17 ∨ m = 18 ∨ m = 19 ∨ m = 20 ∨ m = 21 ∨ m = 22 ∨ m = 23 ∨ m = 24 ∨ m = 25 ∨ m = 26 ∨ m = 27 ∨ m = 28 ∨ m = 29 ∨ m = 30 ∨ m = 31 ∨ m = 32 ∨ m = 33 ∨ m = 34 ∨ m = 35 ∨ m = 36 ∨ m = 37 ∨ m = 38 ∨ m = 39 ∨ m = 40 ∨ m = 41 ∨ m = 42 by omega) with e | e | e | e | e | e | e | e | e | e | e | e | e | e | e | e | e | e | e | e | e | e | e | e | e | e | e | e | e | e | e | e | e | e | e | e | e | e | e | e | e | e | e
    · subst e
      obtain ⟨σ', e1, e2⟩ := lI_0 h (xs (i + 1).toNatClampNeg) (xs (i + 2).toNatClampNeg)
      exact bo_tabIn (off := 188) hx 220 dL_32 hm (by decide) (by decide) (by decide +kernel) (by decide) (lw_ofN (lC_0 hx hs hin1 hin2 σ' e1 (go σ' e2)))
    · subst e
      obtain ⟨σ', e1, e2⟩ := lI_1 h (xs (i + 1).toNatClampNeg) (xs (i + 2).toNatClampNeg)
      exact bo_tabIn (off := 211) hx 243 dL_32 hm (by decide) (by decide) (by decide +kernel) (by decide) (lw_ofN (lC_1 hx hs hin1 hin2 σ' e1 (go σ' e2)))
    · subst e
      obtain ⟨σ', e1, e2⟩ := lI_2 h (xs (i + 1).toNatClampNeg) (xs (i + 2).toNatClampNeg)
      exact bo_tabIn (off := 224) hx 256 dL_32 hm (by decide) (by decide) (by decide +kernel) (by decide) (lw_ofN (lC_2 hx hs hin1 hin2 σ' e1 (go σ' e2)))
    · subst e
      obtain ⟨σ', e1, e2⟩ := lI_3 h (xs (i + 1).toNatClampNeg) (xs (i + 2).toNatClampNeg)
      exact bo_tabIn (off := 237) hx 269 dL_32 hm (by decide) (by decide) (by decide +kernel) (by decide) (lw_ofN (lC_3 hx hs hin1 hin2 σ' e1 (go σ' e2)))
    · subst e
      obtain ⟨σ', e1, e2⟩ := lI_4 h (xs (i + 1).toNatClampNeg) (xs (i + 2).toNatClampNeg)
      exact bo_tabIn (off := 260) hx 292 dL_32 hm (by decide) (by decide) (by decide +kernel) (by decide) (lw_ofN (lC_4 hx hs hin1 hin2 σ' e1 (go σ' e2)))
    · subst e
      obtain ⟨σ', e1, e2⟩ := lI_5 h (xs (i + 1).toNatClampNeg) (xs (i + 2).toNatClampNeg)
      exact bo_tabIn (off := 293) hx 325 dL_32 hm (by decide) (by decide) (by decide +kernel) (by decide) (lw_ofN (lC_5 hx hs hin1 hin2 σ' e1 (go σ' e2)))
    · subst e
      obtain ⟨σ', e1, e2⟩ := lI_6 h (xs (i + 1).toNatClampNeg) (xs (i + 2).toNatClampNeg)
      exact bo_tabIn (off := 326) hx 358 dL_32 hm (by decide) (by decide) (by decide +kernel) (by decide) (lw_ofN (lC_6 hx hs hin1 hin2 σ' e1 (go σ' e2)))
    · subst e
      obtain ⟨σ', e1, e2⟩ := lI_7 h (xs (i + 1).toNatClampNeg) (xs (i + 2).toNatClampNeg)
      exact bo_tabIn (off := 349) hx 381 dL_32 hm (by decide) (by decide) (by decide +kernel) (by decide) (lw_ofN (lC_7 hx hs hin1 hin2 σ' e1 (go σ' e2)))
    · subst e
      obtain ⟨σ', e1, e2⟩ := lI_8 h (xs (i + 1).toNatClampNeg) (xs (i + 2).toNatClampNeg)
      exact bo_tabIn (off := 382) hx 414 dL_32 hm (by decide) (by decide) (by decide +kernel) (by decide) (lw_ofN (lC_8 hx hs hin1 hin2 σ' e1 (go σ' e2)))
    · subst e
      obtain ⟨σ', e1, e2⟩ := lI_9 h (xs (i + 1).toNatClampNeg) (xs (i + 2).toNatClampNeg)
      exact bo_tabIn (off := 405) hx 437 dL_32 hm (by decide) (by decide) (by decide +kernel) (by decide) (lw_ofN (lC_9 hx hs hin1 hin2 σ' e1 (go σ' e2)))
    · subst e
      obtain ⟨σ', e1, e2⟩ := lI_10 h (xs (i + 1).toNatClampNeg) (xs (i + 2).toNatClampNeg)
      exact bo_tabIn (off := 428) hx 460 dL_32 hm (by decide) (by decide) (by decide +kernel) (by decide) (lw_ofN (lC_10 hx hs hin1 hin2 σ' e1 (go σ' e2)))
    · subst e
      obtain ⟨σ', e1, e2⟩ := lI_11 h (xs (i + 1).toNatClampNeg) (xs (i + 2).toNatClampNeg)
      exact bo_tabIn (off := 451) hx 483 dL_32 hm (by decide) (by decide) (by decide +kernel) (by decide) (lw_ofN (lC_11 hx hs hin1 hin2 σ' e1 (go σ' e2)))
    · subst e
      obtain ⟨σ', e1, e2⟩ := lI_12 h (xs (i + 1).toNatClampNeg) (xs (i + 2).toNatClampNeg)
      exact bo_tabIn (off := 484) hx 516 dL_32 hm (by decide) (by decide) (by decide +kernel) (by decide) (lw_ofN (lC_12 hx hs hin1 hin2 σ' e1 (go σ' e2)))
    · subst e
      obtain ⟨σ', e1, e2⟩ := lI_13 h (xs (i + 1).toNatClampNeg) (xs (i + 2).toNatClampNeg)
      exact bo_tabIn (off := 517) hx 549 dL_32 hm (by decide) (by decide) (by decide +kernel) (by decide) (lw_ofN (lC_13 hx hs hin1 hin2 σ' e1 (go σ' e2)))
    · subst e
      obtain ⟨σ', e1, e2⟩ := lI_14 h (xs (i + 1).toNatClampNeg) (xs (i + 2).toNatClampNeg)
      exact bo_tabIn (off := 540) hx 572 dL_32 hm (by decide) (by decide) (by decide +kernel) (by decide) (lw_ofN (lC_14 hx hs hin1 hin2 σ' e1 (go σ' e2)))
    · subst e
      obtain ⟨σ', e1, e2⟩ := lI_15 h (xs (i + 1).toNatClampNeg) (xs (i + 2).toNatClampNeg)
      exact bo_tabIn (off := 563) hx 595 dL_32 hm (by decide) (by decide) (by decide +kernel) (by decide) (lw_ofN (lC_15 hx hs hin1 hin2 σ' e1 (go σ' e2)))
    · subst e
      obtain ⟨σ', e1, e2⟩ := lI_16 h (xs (i + 1).toNatClampNeg) (xs (i + 2).toNatClampNeg)
      exact bo_tabIn (off := 586) hx 618 dL_32 hm (by decide) (by decide) (by decide +kernel) (by decide) (lw_ofN (lC_16 hx hs hin1 hin2 σ' e1 (go σ' e2)))
    · subst e
      obtain ⟨σ', e1, e2⟩ := lI_17 h (xs (i + 1).toNatClampNeg) (xs (i + 2).toNatClampNeg)
      exact bo_tabIn (off := 599) hx 631 dL_32 hm (by decide) (by decide) (by decide +kernel) (by decide) (lw_ofN (lC_17 hx hs hin1 hin2 σ' e1 (go σ' e2)))
    · subst e
      obtain ⟨σ', e1, e2⟩ := lI_18 h (xs (i + 1).toNatClampNeg) (xs (i + 2).toNatClampNeg)
      exact bo_tabIn (off := 622) hx 654 dL_32 hm (by decide) (by decide) (by decide +kernel) (by decide) (lw_ofN (lC_18 hx hs hin1 hin2 σ' e1 (go σ' e2)))
    · subst e
      obtain ⟨σ', e1, e2⟩ := lI_19 h (xs (i + 1).toNatClampNeg) (xs (i + 2).toNatClampNeg)
      exact bo_tabIn (off := 645) hx 677 dL_32 hm (by decide) (by decide) (by decide +kernel) (by decide) (lw_ofN (lC_19 hx hs hin1 hin2 σ' e1 (go σ' e2)))
    · subst e
      obtain ⟨σ', e1, e2⟩ := lI_20 h (xs (i + 1).toNatClampNeg) (xs (i + 2).toNatClampNeg)
      exact bo_tabIn (off := 668) hx 700 dL_32 hm (by decide) (by decide) (by decide +kernel) (by decide) (lw_ofN (lC_20 hx hs hin1 hin2 σ' e1 (go σ' e2)))
    · subst e
      obtain ⟨σ', e1, e2⟩ := lI_21 h (xs (i + 1).toNatClampNeg) (xs (i + 2).toNatClampNeg)
      exact bo_tabIn (off := 681) hx 713 dL_32 hm (by decide) (by decide) (by decide +kernel) (by decide) (lw_ofN (lC_21 hx hs hin1 hin2 σ' e1 (go σ' e2)))
    · subst e
      obtain ⟨σ', e1, e2⟩ := lI_22 h (xs (i + 1).toNatClampNeg) (xs (i + 2).toNatClampNeg)
      exact bo_tabIn (off := 704) hx 736 dL_32 hm (by decide) (by decide) (by decide +kernel) (by decide) (lw_ofN (lC_22 hx hs hin1 hin2 σ' e1 (go σ' e2)))
    · subst e
      obtain ⟨σ', e1, e2⟩ := lI_23 h (xs (i + 1).toNatClampNeg) (xs (i + 2).toNatClampNeg)
      exact bo_tabIn (off := 727) hx 759 dL_32 hm (by decide) (by decide) (by decide +kernel) (by decide) (lw_ofN (lC_23 hx hs hin1 hin2 σ' e1 (go σ' e2)))
    · subst e
      obtain ⟨σ', e1, e2⟩ := lI_24 h (xs (i + 1).toNatClampNeg) (xs (i + 2).toNatClampNeg)
      exact bo_tabIn (off := 750) hx 782 dL_32 hm (by decide) (by decide) (by decide +kernel) (by decide) (lw_ofN (lC_24 hx hs hin1 hin2 σ' e1 (go σ' e2)))
    · subst e
      obtain ⟨σ', e1, e2⟩ := lI_25 h (xs (i + 1).toNatClampNeg) (xs (i + 2).toNatClampNeg)
      exact bo_tabIn (off := 773) hx 805 dL_32 hm (by decide) (by decide) (by decide +kernel) (by decide) (lw_ofN (lC_25 hx hs hin1 hin2 σ' e1 (go σ' e2)))
    · subst e
      obtain ⟨σ', e1, e2⟩ := lI_26 h (xs (i + 1).toNatClampNeg) (xs (i + 2).toNatClampNeg)
      exact bo_tabIn (off := 786) hx 818 dL_32 hm (by decide) (by decide) (by decide +kernel) (by decide) (lw_ofN (lC_26 hx hs hin1 hin2 σ' e1 (go σ' e2)))
    · subst e
      obtain ⟨σ', e1, e2⟩ := lI_27 h (xs (i + 1).toNatClampNeg) (xs (i + 2).toNatClampNeg)
      exact bo_tabIn (off := 819) hx 851 dL_32 hm (by decide) (by decide) (by decide +kernel) (by decide) (lw_ofN (lC_27 hx hs hin1 hin2 σ' e1 (go σ' e2)))
    · subst e
      obtain ⟨σ', e1, e2⟩ := lI_28 h (xs (i + 1).toNatClampNeg) (xs (i + 2).toNatClampNeg)
      exact bo_tabIn (off := 842) hx 874 dL_32 hm (by decide) (by decide) (by decide +kernel) (by decide) (lw_ofN (lC_28 hx hs hin1 hin2 σ' e1 (go σ' e2)))
    · subst e
      obtain ⟨σ', e1, e2⟩ := lI_29 h (xs (i + 1).toNatClampNeg) (xs (i + 2).toNatClampNeg)
      exact bo_tabIn (off := 865) hx 897 dL_32 hm (by decide) (by decide) (by decide +kernel) (by decide) (lw_ofN (lC_29 hx hs hin1 hin2 σ' e1 (go σ' e2)))
    · subst e
      obtain ⟨σ', e1, e2⟩ := lI_30 h (xs (i + 1).toNatClampNeg) (xs (i + 2).toNatClampNeg)
      exact bo_tabIn (off := 888) hx 920 dL_32 hm (by decide) (by decide) (by decide +kernel) (by decide) (lw_ofN (lC_30 hx hs hin1 hin2 σ' e1 (go σ' e2)))
    · subst e
      obtain ⟨σ', e1, e2⟩ := lI_31 h (xs (i + 1).toNatClampNeg) (xs (i + 2).toNatClampNeg)
      exact bo_tabIn (off := 901) hx 933 dL_32 hm (by decide) (by decide) (by decide +kernel) (by decide) (lw_ofN (lC_31 hx hs hin1 hin2 σ' e1 (go σ' e2)))
    · subst e
      obtain ⟨σ', e1, e2⟩ := lI_32 h (xs (i + 1).toNatClampNeg) (xs (i + 2).toNatClampNeg)
      exact bo_tabIn (off := 914) hx 946 dL_32 hm (by decide) (by decide) (by decide +kernel) (by decide) (lw_ofN (lC_32 hx hs hin1 hin2 σ' e1 (go σ' e2)))
    · subst e
      obtain ⟨σ', e1, e2⟩ := lI_33 h (xs (i + 1).toNatClampNeg) (xs (i + 2).toNatClampNeg)
      exact bo_tabIn (off := 937) hx 969 dL_32 hm (by decide) (by decide) (by decide +kernel) (by decide) (lw_ofN (lC_33 hx hs hin1 hin2 σ' e1 (go σ' e2)))
    · subst e
      obtain ⟨σ', e1, e2⟩ := lI_34 h (xs (i + 1).toNatClampNeg) (xs (i + 2).toNatClampNeg)
      exact bo_tabIn (off := 970) hx 1002 dL_32 hm (by decide) (by decide) (by decide +kernel) (by decide) (lw_ofN (lC_34 hx hs hin1 hin2 σ' e1 (go σ' e2)))
    · subst e
      obtain ⟨σ', e1, e2⟩ := lI_35 h (xs (i + 1).toNatClampNeg) (xs (i + 2).toNatClampNeg)
      exact bo_tabIn (off := 993) hx 1025 dL_32 hm (by decide) (by decide) (by decide +kernel) (by decide) (lw_ofN (lC_35 hx hs hin1 hin2 σ' e1 (go σ' e2)))
    · subst e
      obtain ⟨σ', e1, e2⟩ := lI_36 h (xs (i + 1).toNatClampNeg) (xs (i + 2).toNatClampNeg)
      exact bo_tabIn (off := 1006) hx 1038 dL_32 hm (by decide) (by decide) (by decide +kernel) (by decide) (lw_ofN (lC_36 hx hs hin1 hin2 σ' e1 (go σ' e2)))
    · subst e
      obtain ⟨σ', e1, e2⟩ := lI_37 h (xs (i + 1).toNatClampNeg) (xs (i + 2).toNatClampNeg)
      exact bo_tabIn (off := 1019) hx 1051 dL_32 hm (by decide) (by decide) (by decide +kernel) (by decide) (lw_ofN (lC_37 hx hs hin1 hin2 σ' e1 (go σ' e2)))
    · subst e
      obtain ⟨σ', e1, e2⟩ := lI_38 h (xs (i + 1).toNatClampNeg) (xs (i + 2).toNatClampNeg)
      exact bo_tabIn (off := 1052) hx 1084 dL_32 hm (by decide) (by decide) (by decide +kernel) (by decide) (lw_ofN (lC_38 hx hs hin1 hin2 σ' e1 (go σ' e2)))
    · subst e
      obtain ⟨σ', e1, e2⟩ := lI_39 h (xs (i + 1).toNatClampNeg) (xs (i + 2).toNatClampNeg)
      exact bo_tabIn (off := 1065) hx 1097 dL_32 hm (by decide) (by decide) (by decide +kernel) (by decide) (lw_ofN (lC_39 hx hs hin1 hin2 σ' e1 (go σ' e2)))
    · subst e
      obtain ⟨σ', e1, e2⟩ := lI_40 h (xs (i + 1).toNatClampNeg) (xs (i + 2).toNatClampNeg)
      exact bo_tabIn (off := 1078) hx 1110 dL_32 hm (by decide) (by decide) (by decide +kernel) (by decide) (lw_ofN (lC_40 hx hs hin1 hin2 σ' e1 (go σ' e2)))
    · subst e
      obtain ⟨σ', e1, e2⟩ := lI_41 h (xs (i + 1).toNatClampNeg) (xs (i + 2).toNatClampNeg)
      exact bo_tabIn (off := 1101) hx 1133 dL_32 hm (by decide) (by decide) (by decide +kernel) (by decide) (lw_ofN (lC_41 hx hs hin1 hin2 σ' e1 (go σ' e2)))
    · subst e
      obtain ⟨σ', e1, e2⟩ := lI_42 h (xs (i + 1).toNatClampNeg) (xs (i + 2).toNatClampNeg)
      exact bo_tabIn (off := 1124) hx 1156 dL_32 hm (by decide) (by decide) (by decide +kernel) (by decide) (lw_ofN (lC_42 hx hs hin1 hin2 σ' e1 (go σ' e2)))
  · refine bo_tabOut hx 1179 dL_32 ?_ (by decide) (lw_ofN (go σ h))
    by_cases z : w.toInt < 0
    · exact Or.inl z
    · right
      by_cases z2 : 42 < w.toInt
      · exact z2
      · exfalso
        refine hw ⟨(fa_le _ _).mpr ?_, (fa_le _ _).mpr ?_⟩
        · rw [show (0 : Int32).toInt = 0 by decide]; omega
        · rw [show (42 : Int32).toInt = 42 by decide]; omega
theorem lw_loop (hx : bo_OK x cL "BellRopeLaw" 4 9 320) (hs : sc x b n xs) (hn : n ≤ 192) (fin : ∀ L σ, bo_N x 1186 L [.int 1] σ) : ∀ r k σ, n ≤ 3 * k + 2 + 3 * r → 3 * k ≤ n + 3 → in_all σ → bo_N x 18 (lawL x b (nI (3 * k))) [] σ := by
  have exit : ∀ k σ, n ≤ 3 * k + 2 → 3 * k ≤ n + 3 → bo_N x 18 (lawL x b (nI (3 * k))) [] σ := by
    intro k σ h1 h2
    refine lw_toN ?_
    refine bo_iload_n hx dL_18 rfl 0 rfl ?_
    refine bo_aload_n hx dL_19 rfl 3 rfl ?_
    refine bo_slen hx hs dL_20 ?_
    refine bo_iconst (v := 3) hx dL_21 (by decide) ?_
    refine bo_isub hx dL_22 ?_
    have c : Int32.ofNat n - 3 < nI (3 * k) := by
      rw [fa_lt, show (3 : Int32) = nI 3 from rfl, show Int32.ofNat n - nI 3 = nI n - nI 3 from rfl, pk_sub_toInt (by omega) (by omega), nI_toInt (by omega)]
      omega
    rw [show (some () : Option Unit) = if Int32.ofNat n - 3 < nI (3 * k) then some () else none from (if_pos c).symm]
    refine bo_icmp_gt hx 1185 dL_23 (by decide) ?_ bo_none
    refine bo_iconst (v := 1) hx dL_1185 (by decide) ?_
    exact lw_ofN (fin _ _)
  intro r
  induction r with
  | zero => intro k σ h1 h2 _; exact exit k σ (by omega) h2
  | succ r ih =>
    intro k σ h1 h2 h
    by_cases hk : n ≤ 3 * k + 2
    · exact exit k σ hk h2
    · refine lw_toN ?_
      refine bo_iload_n hx dL_18 rfl 0 rfl ?_
      refine bo_aload_n hx dL_19 rfl 3 rfl ?_
      refine bo_slen hx hs dL_20 ?_
      refine bo_iconst (v := 3) hx dL_21 (by decide) ?_
      refine bo_isub hx dL_22 ?_
      have c : ¬ Int32.ofNat n - 3 < nI (3 * k) := by
        rw [fa_lt, show (3 : Int32) = nI 3 from rfl, show Int32.ofNat n - nI 3 = nI n - nI 3 from rfl, pk_sub_toInt (by omega) (by omega), nI_toInt (by omega)]
        omega
      rw [show (some () : Option Unit) = if Int32.ofNat n - 3 < nI (3 * k) then none else some () from (if_neg c).symm]
      refine bo_icmp_gt hx 1185 dL_23 (by decide) bo_none ?_
      have hin : ∀ j, j < n → vp_in (nI j) n := fun j hj z => by
        rcases z with z | z
        · exact nI_pos (by omega) z
        · rw [nI_clamp (by omega)] at z; omega
      have e1 : nI (3 * k) + 1 = nI (3 * k + 1) := nI_1 _
      have e2 : nI (3 * k) + 2 = nI (3 * k + 2) := nI_add _ 2
      refine bo_aload_n hx dL_26 rfl 3 rfl ?_
      refine bo_iload_n hx dL_27 rfl 0 rfl ?_
      refine bo_sld hx hs (hin _ (by omega)) dL_28 ?_
      refine bo_bipush (v := 63) hx dL_29 (by decide) ?_
      refine bo_iand hx dL_31 ?_
      refine lw_cases hx hs (by rw [e1]; exact hin _ (by omega)) (by rw [e2]; exact hin _ (by omega)) h _ (fun σ' h' => ?_)
      refine lw_toN ?_
      refine bo_iinc (w := nI (3 * (k + 1))) (L' := lawL x b (nI (3 * (k + 1)))) hx dL_1179 0 rfl ?_ (by decide) rfl ?_
      · show nI (3 * k) + nI 3 = _
        rw [nI_add]
        congr 1
      · refine bo_goto hx 18 dL_1182 (by decide) ?_
        exact lw_ofN (ih (k + 1) σ' (by omega) (by omega) h')
end LAWLOOP
