theorem dX2_give_0 : decode cX2_give 0 = .ok (.iload_n 1, 1) := by decide +kernel
theorem dX2_give_1 : decode cX2_give 1 = .ok (.invokestatic 205, 3) := by decide +kernel
theorem dX2_give_4 : decode cX2_give 4 = .ok (.ifCond .eq 13, 3) := by decide +kernel
theorem dX2_give_7 : decode cX2_give 7 = .ok (.aload_n 0, 1) := by decide +kernel
theorem dX2_give_8 : decode cX2_give 8 = .ok (.getfield 25, 3) := by decide +kernel
theorem dX2_give_11 : decode cX2_give 11 = .ok (.iload_n 1, 1) := by decide +kernel
theorem dX2_give_12 : decode cX2_give 12 = .ok (.dup2, 1) := by decide +kernel
theorem dX2_give_13 : decode cX2_give 13 = .ok (.iaload, 1) := by decide +kernel
theorem dX2_give_14 : decode cX2_give 14 = .ok (.iload_n 2, 1) := by decide +kernel
theorem dX2_give_15 : decode cX2_give 15 = .ok (.iadd, 1) := by decide +kernel
theorem dX2_give_16 : decode cX2_give 16 = .ok (.iastore, 1) := by decide +kernel
theorem dX2_give_17 : decode cX2_give 17 = .ok (.return_, 1) := by decide +kernel
noncomputable def b_X2_give_0 (rec : Rk) (x1 x2 : Int) (h : Hp) : Option (Int × Hp) :=
  bd (f_X11_isCourse x1 h) fun v1 h2 =>
  if v1 = 0 then (
    some (0, h2)
  ) else (
    ck (0 ≤ x1 ∧ x1 < 4) <|
    ck (-2147483648 ≤ (gI h2 31 0 x1) + x2 ∧ (gI h2 31 0 x1) + x2 < 2147483648) <|
    ck (0 ≤ x1 ∧ x1 < 4) <|
    lt (sI h2 31 0 x1 ((gI h2 31 0 x1) + x2)) fun h3 =>
    some (0, h3)
  )
noncomputable def g_X2_give (n : Nat) : Rk := Nat.rec (motive := fun _ => Rk) (fun _ _ _ => none) (fun _ rec k l h => if k = 0 then b_X2_give_0 rec (l.getD 0 0) (l.getD 1 0) h else none) n
noncomputable def f_X2_give (x1 x2 : Int) (h : Hp) : Option (Int × Hp) := g_X2_give FU 0 [x1, x2] h
set_option maxHeartbeats 4000000 in
set_option maxRecDepth 100000 in
theorem t_X2_give_0 (E : xE) (d : Nat) (rec : Rk) (r : Int × Hp) (x1 x2 : Int) (h : Hp) (hL : Lay h) (hF : b_X2_give_0 rec x1 x2 h = some r) : X E mX2_give (d + 2) (0, 0) (0, 0) 0 [some (xr 2 0), some (xi x1), some (xi x2)] [] h (PoV r) := by
  unfold b_X2_give_0 at hF
  refine x_iload_n (i := 1) (b := 1) dX2_give_0 rfl rfl rfl ?_
  obtain ⟨v1, h2, hq, hF⟩ := bd_e hF
  refine x_callSN (as := [xi x1]) (rest := []) (b := 4) (c_X11_isCourse d x1 h _ hL hq) rfl dX2_give_1 rfl rfl (Nat.le_of_ble_eq_true rfl) ⟨Nat.le_refl _, Nat.le_refl _⟩ rfl (fun rv hh hp _ => ?_)
  obtain ⟨rfl, rfl, hL⟩ := hp
  refine x_if_eq (tgt := 17) (b := 7) dX2_give_4 (by decide) rfl (fun hc => ?_) (fun hc => ?_)
  · replace hF := br_T hc hF
    refine x_return dX2_give_17 rfl ⟨Nat.le_refl _, Nat.le_refl _⟩ ?_
    cases hF
    exact ⟨rfl, rfl, hL⟩
  · replace hF := br_F hc hF
    refine x_aload_n (i := 0) (b := 8) dX2_give_7 rfl rfl rfl ?_
    refine x_getL (j := 0) (t := (31, 0, true)) (b := 11) fk_X2_25 dX2_give_8 rfl hL rfl rfl rfl ?_
    refine x_iload_n (i := 1) (b := 12) dX2_give_11 rfl rfl rfl ?_
    refine x_dup2 (b := 13) dX2_give_12 rfl rfl rfl ?_
    obtain ⟨hs, hF⟩ := ck_e hF
    refine x_iald (v := gI h2 31 0 x1) (b := 14) ak_31 dX2_give_13 hs rfl rfl ?_
    refine x_iload_n (i := 2) (b := 15) dX2_give_14 rfl rfl rfl ?_
    obtain ⟨hs, hF⟩ := ck_e hF
    refine x_iadd (b := 16) dX2_give_15 hs rfl ?_
    obtain ⟨hs, hF⟩ := ck_e hF
    have hs1 := hs
    refine x_iast (b := 17) ak_31 dX2_give_16 hs1 rfl ?_
    obtain ⟨h3, e_h3, hF⟩ := lt_e hF
    refine x_hp (h2 := h3) e_h3 ?_
    replace hL : Lay h3 := by rw [← e_h3]; exact hL
    refine x_return dX2_give_17 rfl ⟨Nat.le_refl _, Nat.le_refl _⟩ ?_
    cases hF
    exact ⟨rfl, rfl, hL⟩
set_option maxHeartbeats 4000000 in
set_option maxRecDepth 100000 in
theorem u_X2_give (E : xE) (d : Nat) (r : Int × Hp) : ∀ n : Nat, (∀ (x1 x2 : Int) (h : Hp), Lay h → g_X2_give n 0 [x1, x2] h = some r → X E mX2_give (d + 2) (0, 0) (0, 0) 0 [some (xr 2 0), some (xi x1), some (xi x2)] [] h (PoV r)) := by
  intro n
  induction n with
  | zero => exact fun _ _ _ _ hF => no_e (r := r) hF
  | succ n ih => exact fun x1 x2 h hL hF => t_X2_give_0 E d (g_X2_give n) r  x1 x2 h hL hF
theorem c_X2_give (d : Nat) (x1 x2 : Int) (h : Hp) (r : Int × Hp) (hL : Lay h) (hF : f_X2_give x1 x2 h = some r) : Sp mX2_give (d + 2) (0, 0) [xr 2 0, xi x1, xi x2] h (PoV r) :=
  sp_of (by decide) rfl (Nat.le_of_ble_eq_true rfl) (ls := [some (xr 2 0), some (xi x1), some (xi x2)]) rfl (fun E _ => (u_X2_give E d r FU) x1 x2 h hL hF)
theorem dX2_isFed_0 : decode cX2_isFed 0 = .ok (.iload_n 1, 1) := by decide +kernel
theorem dX2_isFed_1 : decode cX2_isFed 1 = .ok (.aload_n 0, 1) := by decide +kernel
theorem dX2_isFed_2 : decode cX2_isFed 2 = .ok (.getfield 43, 3) := by decide +kernel
theorem dX2_isFed_5 : decode cX2_isFed 5 = .ok (.getfield 58, 3) := by decide +kernel
theorem dX2_isFed_8 : decode cX2_isFed 8 = .ok (.if_icmp .ge 12, 3) := by decide +kernel
theorem dX2_isFed_11 : decode cX2_isFed 11 = .ok (.iload_n 2, 1) := by decide +kernel
theorem dX2_isFed_12 : decode cX2_isFed 12 = .ok (.iload_n 1, 1) := by decide +kernel
theorem dX2_isFed_13 : decode cX2_isFed 13 = .ok (.ishr, 1) := by decide +kernel
theorem dX2_isFed_14 : decode cX2_isFed 14 = .ok (.iconst 1, 1) := by decide +kernel
theorem dX2_isFed_15 : decode cX2_isFed 15 = .ok (.iand, 1) := by decide +kernel
theorem dX2_isFed_16 : decode cX2_isFed 16 = .ok (.iconst 1, 1) := by decide +kernel
theorem dX2_isFed_17 : decode cX2_isFed 17 = .ok (.if_icmp .ne 7, 3) := by decide +kernel
theorem dX2_isFed_20 : decode cX2_isFed 20 = .ok (.iconst 1, 1) := by decide +kernel
theorem dX2_isFed_21 : decode cX2_isFed 21 = .ok (.goto 4, 3) := by decide +kernel
theorem dX2_isFed_24 : decode cX2_isFed 24 = .ok (.iconst 0, 1) := by decide +kernel
theorem dX2_isFed_25 : decode cX2_isFed 25 = .ok (.ireturn, 1) := by decide +kernel
noncomputable def b_X2_isFed_0 (rec : Rk) (x1 x2 : Int) (h : Hp) : Option (Int × Hp) :=
  rf (gR h 2 0 0) 0 fun j1 =>
  if (gI h 0 j1 3) ≤ x1 then (
    rec 1 [] h
  ) else (
    if (band (bshr x2 x1) 1) = 1 then (
      rec 1 [] h
    ) else (
      some (0, h)
    )
  )
noncomputable def b_X2_isFed_1 (rec : Rk) (h : Hp) : Option (Int × Hp) :=
  some (1, h)
noncomputable def g_X2_isFed (n : Nat) : Rk := Nat.rec (motive := fun _ => Rk) (fun _ _ _ => none) (fun _ rec k l h => if k = 0 then b_X2_isFed_0 rec (l.getD 0 0) (l.getD 1 0) h else if k = 1 then b_X2_isFed_1 rec  h else none) n
noncomputable def f_X2_isFed (x1 x2 : Int) (h : Hp) : Option (Int × Hp) := g_X2_isFed FU 0 [x1, x2] h
set_option maxHeartbeats 4000000 in
set_option maxRecDepth 100000 in
theorem t_X2_isFed_0 (E : xE) (d : Nat) (rec : Rk) (r : Int × Hp) (hr_20 : ∀ (h : Hp), Lay h → rec 1 [] h = some r → X E mX2_isFed (d + 1) (0, 0) (0, 0) 20 [none, none, none] [] h (PoI r)) (x1 x2 : Int) (h : Hp) (hL : Lay h) (hF : b_X2_isFed_0 rec x1 x2 h = some r) : X E mX2_isFed (d + 1) (0, 0) (0, 0) 0 [some (xr 2 0), some (xi x1), some (xi x2)] [] h (PoI r) := by
  unfold b_X2_isFed_0 at hF
  refine x_iload_n (i := 1) (b := 1) dX2_isFed_0 rfl rfl rfl ?_
  refine x_aload_n (i := 0) (b := 2) dX2_isFed_1 rfl rfl rfl ?_
  obtain ⟨j1, e_j1, hF⟩ := rf_e hF
  refine x_getR (v := some (0, j1)) (b := 5) fk_X2_43 dX2_isFed_2 rfl e_j1 rfl ?_
  refine x_getI (v := gI h 0 j1 3) (b := 8) fk_X2_58 dX2_isFed_5 (by decide) rfl rfl ?_
  refine x_icmp_ge (tgt := 20) (b := 11) dX2_isFed_8 (by decide) rfl (fun hc => ?_) (fun hc => ?_)
  · replace hF := br_T hc hF
    exact x_dp (ls2 := [none, none, none]) trivial (hr_20  h hL hF)
  · replace hF := br_F hc hF
    refine x_iload_n (i := 2) (b := 12) dX2_isFed_11 rfl rfl rfl ?_
    refine x_iload_n (i := 1) (b := 13) dX2_isFed_12 rfl rfl rfl ?_
    refine x_ishr (b := 14) dX2_isFed_13 rfl ?_
    refine x_iconst (n := 1) (b := 15) dX2_isFed_14 (by decide) rfl ?_
    refine x_iand (b := 16) dX2_isFed_15 rfl ?_
    refine x_iconst (n := 1) (b := 17) dX2_isFed_16 (by decide) rfl ?_
    refine x_icmp_ne (tgt := 24) (b := 20) dX2_isFed_17 (by decide) rfl (fun hc => ?_) (fun hc => ?_)
    · replace hF := br_F hc hF
      refine x_iconst (n := 0) (b := 25) dX2_isFed_24 (by decide) rfl ?_
      refine x_zreturn dX2_isFed_25 rfl ⟨Nat.le_refl _, Nat.le_refl _⟩ (by decide) ?_
      cases hF
      exact ⟨rfl, rfl, hL⟩
    · replace hF := br_T hc hF
      exact x_dp (ls2 := [none, none, none]) trivial (hr_20  h hL hF)
set_option maxHeartbeats 4000000 in
set_option maxRecDepth 100000 in
theorem t_X2_isFed_1 (E : xE) (d : Nat) (rec : Rk) (r : Int × Hp) (h : Hp) (hL : Lay h) (hF : b_X2_isFed_1 rec  h = some r) : X E mX2_isFed (d + 1) (0, 0) (0, 0) 20 [none, none, none] [] h (PoI r) := by
  unfold b_X2_isFed_1 at hF
  refine x_iconst (n := 1) (b := 21) dX2_isFed_20 (by decide) rfl ?_
  refine x_goto (tgt := 25) dX2_isFed_21 (by decide) ?_
  refine x_zreturn dX2_isFed_25 rfl ⟨Nat.le_refl _, Nat.le_refl _⟩ (by decide) ?_
  cases hF
  exact ⟨rfl, rfl, hL⟩
set_option maxHeartbeats 4000000 in
set_option maxRecDepth 100000 in
theorem u_X2_isFed (E : xE) (d : Nat) (r : Int × Hp) : ∀ n : Nat, (∀ (x1 x2 : Int) (h : Hp), Lay h → g_X2_isFed n 0 [x1, x2] h = some r → X E mX2_isFed (d + 1) (0, 0) (0, 0) 0 [some (xr 2 0), some (xi x1), some (xi x2)] [] h (PoI r)) ∧ (∀ (h : Hp), Lay h → g_X2_isFed n 1 [] h = some r → X E mX2_isFed (d + 1) (0, 0) (0, 0) 20 [none, none, none] [] h (PoI r)) := by
  intro n
  induction n with
  | zero => exact ⟨fun _ _ _ _ hF => no_e (r := r) hF, fun _ _ hF => no_e (r := r) hF⟩
  | succ n ih => exact ⟨fun x1 x2 h hL hF => t_X2_isFed_0 E d (g_X2_isFed n) r ih.2 x1 x2 h hL hF, fun h hL hF => t_X2_isFed_1 E d (g_X2_isFed n) r   h hL hF⟩
theorem c_X2_isFed (d : Nat) (x1 x2 : Int) (h : Hp) (r : Int × Hp) (hL : Lay h) (hF : f_X2_isFed x1 x2 h = some r) : Sp mX2_isFed (d + 1) (0, 0) [xr 2 0, xi x1, xi x2] h (PoI r) :=
  sp_of (by decide) rfl (Nat.le_of_ble_eq_true rfl) (ls := [some (xr 2 0), some (xi x1), some (xi x2)]) rfl (fun E _ => (u_X2_isFed E d r FU).1 x1 x2 h hL hF)
theorem dX2_usePage_0 : decode cX2_usePage 0 = .ok (.aload_n 0, 1) := by decide +kernel
theorem dX2_usePage_1 : decode cX2_usePage 1 = .ok (.iload_n 1, 1) := by decide +kernel
theorem dX2_usePage_2 : decode cX2_usePage 2 = .ok (.ifCond .lt 15, 3) := by decide +kernel
theorem dX2_usePage_5 : decode cX2_usePage 5 = .ok (.iload_n 1, 1) := by decide +kernel
theorem dX2_usePage_6 : decode cX2_usePage 6 = .ok (.iconst 3, 1) := by decide +kernel
theorem dX2_usePage_7 : decode cX2_usePage 7 = .ok (.if_icmp .ge 10, 3) := by decide +kernel
theorem dX2_usePage_10 : decode cX2_usePage 10 = .ok (.iload_n 1, 1) := by decide +kernel
theorem dX2_usePage_11 : decode cX2_usePage 11 = .ok (.bipush 90, 2) := by decide +kernel
theorem dX2_usePage_13 : decode cX2_usePage 13 = .ok (.imul, 1) := by decide +kernel
theorem dX2_usePage_14 : decode cX2_usePage 14 = .ok (.goto 4, 3) := by decide +kernel
theorem dX2_usePage_17 : decode cX2_usePage 17 = .ok (.iconst (-1), 1) := by decide +kernel
theorem dX2_usePage_18 : decode cX2_usePage 18 = .ok (.putfield 40, 3) := by decide +kernel
theorem dX2_usePage_21 : decode cX2_usePage 21 = .ok (.return_, 1) := by decide +kernel
noncomputable def b_X2_usePage_0 (rec : Rk) (x1 : Int) (h : Hp) : Option (Int × Hp) :=
  if x1 < 0 then (
    rec 1 [] h
  ) else (
    if 3 ≤ x1 then (
      rec 1 [] h
    ) else (
      ck (-2147483648 ≤ x1 * 90 ∧ x1 * 90 < 2147483648) <|
      lt (sI h 2 0 10 (x1 * 90)) fun h1 =>
      some (0, h1)
    )
  )
noncomputable def b_X2_usePage_1 (rec : Rk) (h : Hp) : Option (Int × Hp) :=
  lt (sI h 2 0 10 (-1)) fun h1 =>
  some (0, h1)
noncomputable def g_X2_usePage (n : Nat) : Rk := Nat.rec (motive := fun _ => Rk) (fun _ _ _ => none) (fun _ rec k l h => if k = 0 then b_X2_usePage_0 rec (l.getD 0 0) h else if k = 1 then b_X2_usePage_1 rec  h else none) n
noncomputable def f_X2_usePage (x1 : Int) (h : Hp) : Option (Int × Hp) := g_X2_usePage FU 0 [x1] h
set_option maxHeartbeats 4000000 in
set_option maxRecDepth 100000 in
theorem t_X2_usePage_0 (E : xE) (d : Nat) (rec : Rk) (r : Int × Hp) (hr_17 : ∀ (h : Hp), Lay h → rec 1 [] h = some r → X E mX2_usePage (d + 1) (0, 0) (0, 0) 17 [none, none] [xr 2 0] h (PoV r)) (x1 : Int) (h : Hp) (hL : Lay h) (hF : b_X2_usePage_0 rec x1 h = some r) : X E mX2_usePage (d + 1) (0, 0) (0, 0) 0 [some (xr 2 0), some (xi x1)] [] h (PoV r) := by
  unfold b_X2_usePage_0 at hF
  refine x_aload_n (i := 0) (b := 1) dX2_usePage_0 rfl rfl rfl ?_
  refine x_iload_n (i := 1) (b := 2) dX2_usePage_1 rfl rfl rfl ?_
  refine x_if_lt (tgt := 17) (b := 5) dX2_usePage_2 (by decide) rfl (fun hc => ?_) (fun hc => ?_)
  · replace hF := br_T hc hF
    exact x_dp (ls2 := [none, none]) trivial (hr_17  h hL hF)
  · replace hF := br_F hc hF
    refine x_iload_n (i := 1) (b := 6) dX2_usePage_5 rfl rfl rfl ?_
    refine x_iconst (n := 3) (b := 7) dX2_usePage_6 (by decide) rfl ?_
    refine x_icmp_ge (tgt := 17) (b := 10) dX2_usePage_7 (by decide) rfl (fun hc => ?_) (fun hc => ?_)
    · replace hF := br_T hc hF
      exact x_dp (ls2 := [none, none]) trivial (hr_17  h hL hF)
    · replace hF := br_F hc hF
      refine x_iload_n (i := 1) (b := 11) dX2_usePage_10 rfl rfl rfl ?_
      refine x_bipush (n := 90) (b := 13) dX2_usePage_11 (by decide) rfl ?_
      obtain ⟨hs, hF⟩ := ck_e hF
      refine x_imul (b := 14) dX2_usePage_13 hs rfl ?_
      refine x_goto (tgt := 18) dX2_usePage_14 (by decide) ?_
      refine x_putI (b := 21) fk_X2_40 dX2_usePage_18 rfl rfl 10 rfl ?_
      obtain ⟨h1, e_h1, hF⟩ := lt_e hF
      refine x_hp (h2 := h1) e_h1 ?_
      replace hL : Lay h1 := by rw [← e_h1]; exact hL
      refine x_return dX2_usePage_21 rfl ⟨Nat.le_refl _, Nat.le_refl _⟩ ?_
      cases hF
      exact ⟨rfl, rfl, hL⟩
set_option maxHeartbeats 4000000 in
set_option maxRecDepth 100000 in
theorem t_X2_usePage_1 (E : xE) (d : Nat) (rec : Rk) (r : Int × Hp) (h : Hp) (hL : Lay h) (hF : b_X2_usePage_1 rec  h = some r) : X E mX2_usePage (d + 1) (0, 0) (0, 0) 17 [none, none] [xr 2 0] h (PoV r) := by
  unfold b_X2_usePage_1 at hF
  refine x_iconst (n := (-1)) (b := 18) dX2_usePage_17 (by decide) rfl ?_
  refine x_putI (b := 21) fk_X2_40 dX2_usePage_18 rfl rfl 10 rfl ?_
  obtain ⟨h1, e_h1, hF⟩ := lt_e hF
  refine x_hp (h2 := h1) e_h1 ?_
  replace hL : Lay h1 := by rw [← e_h1]; exact hL
  refine x_return dX2_usePage_21 rfl ⟨Nat.le_refl _, Nat.le_refl _⟩ ?_
  cases hF
  exact ⟨rfl, rfl, hL⟩
set_option maxHeartbeats 4000000 in
set_option maxRecDepth 100000 in
theorem u_X2_usePage (E : xE) (d : Nat) (r : Int × Hp) : ∀ n : Nat, (∀ (x1 : Int) (h : Hp), Lay h → g_X2_usePage n 0 [x1] h = some r → X E mX2_usePage (d + 1) (0, 0) (0, 0) 0 [some (xr 2 0), some (xi x1)] [] h (PoV r)) ∧ (∀ (h : Hp), Lay h → g_X2_usePage n 1 [] h = some r → X E mX2_usePage (d + 1) (0, 0) (0, 0) 17 [none, none] [xr 2 0] h (PoV r)) := by
  intro n
  induction n with
  | zero => exact ⟨fun _ _ _ hF => no_e (r := r) hF, fun _ _ hF => no_e (r := r) hF⟩
  | succ n ih => exact ⟨fun x1 h hL hF => t_X2_usePage_0 E d (g_X2_usePage n) r ih.2 x1 h hL hF, fun h hL hF => t_X2_usePage_1 E d (g_X2_usePage n) r   h hL hF⟩
theorem c_X2_usePage (d : Nat) (x1 : Int) (h : Hp) (r : Int × Hp) (hL : Lay h) (hF : f_X2_usePage x1 h = some r) : Sp mX2_usePage (d + 1) (0, 0) [xr 2 0, xi x1] h (PoV r) :=
  sp_of (by decide) rfl (Nat.le_of_ble_eq_true rfl) (ls := [some (xr 2 0), some (xi x1)]) rfl (fun E _ => (u_X2_usePage E d r FU).1 x1 h hL hF)
theorem dX2_winner_0 : decode cX2_winner 0 = .ok (.aload_n 0, 1) := by decide +kernel
theorem dX2_winner_1 : decode cX2_winner 1 = .ok (.getfield 43, 3) := by decide +kernel
theorem dX2_winner_4 : decode cX2_winner 4 = .ok (.aload_n 1, 1) := by decide +kernel
theorem dX2_winner_5 : decode cX2_winner 5 = .ok (.getfield 73, 3) := by decide +kernel
theorem dX2_winner_8 : decode cX2_winner 8 = .ok (.invokevirtual 134, 3) := by decide +kernel
theorem dX2_winner_11 : decode cX2_winner 11 = .ok (.istore_n 2, 1) := by decide +kernel
theorem dX2_winner_12 : decode cX2_winner 12 = .ok (.iconst 0, 1) := by decide +kernel
theorem dX2_winner_13 : decode cX2_winner 13 = .ok (.istore_n 3, 1) := by decide +kernel
theorem dX2_winner_14 : decode cX2_winner 14 = .ok (.iconst 0, 1) := by decide +kernel
theorem dX2_winner_15 : decode cX2_winner 15 = .ok (.istore 4, 2) := by decide +kernel
theorem dX2_winner_17 : decode cX2_winner 17 = .ok (.iload 4, 2) := by decide +kernel
theorem dX2_winner_19 : decode cX2_winner 19 = .ok (.iconst 4, 1) := by decide +kernel
theorem dX2_winner_20 : decode cX2_winner 20 = .ok (.if_icmp .ge 31, 3) := by decide +kernel
theorem dX2_winner_23 : decode cX2_winner 23 = .ok (.aload_n 0, 1) := by decide +kernel
theorem dX2_winner_24 : decode cX2_winner 24 = .ok (.getfield 25, 3) := by decide +kernel
theorem dX2_winner_27 : decode cX2_winner 27 = .ok (.iload 4, 2) := by decide +kernel
theorem dX2_winner_29 : decode cX2_winner 29 = .ok (.iaload, 1) := by decide +kernel
theorem dX2_winner_30 : decode cX2_winner 30 = .ok (.iload_n 3, 1) := by decide +kernel
theorem dX2_winner_31 : decode cX2_winner 31 = .ok (.if_icmp .le 14, 3) := by decide +kernel
theorem dX2_winner_34 : decode cX2_winner 34 = .ok (.iload 4, 2) := by decide +kernel
theorem dX2_winner_36 : decode cX2_winner 36 = .ok (.istore_n 2, 1) := by decide +kernel
theorem dX2_winner_37 : decode cX2_winner 37 = .ok (.aload_n 0, 1) := by decide +kernel
theorem dX2_winner_38 : decode cX2_winner 38 = .ok (.getfield 25, 3) := by decide +kernel
theorem dX2_winner_41 : decode cX2_winner 41 = .ok (.iload 4, 2) := by decide +kernel
theorem dX2_winner_43 : decode cX2_winner 43 = .ok (.iaload, 1) := by decide +kernel
theorem dX2_winner_44 : decode cX2_winner 44 = .ok (.istore_n 3, 1) := by decide +kernel
theorem dX2_winner_45 : decode cX2_winner 45 = .ok (.iinc 4 1, 3) := by decide +kernel
theorem dX2_winner_48 : decode cX2_winner 48 = .ok (.goto (-31), 3) := by decide +kernel
theorem dX2_winner_51 : decode cX2_winner 51 = .ok (.iload_n 2, 1) := by decide +kernel
theorem dX2_winner_52 : decode cX2_winner 52 = .ok (.ireturn, 1) := by decide +kernel
noncomputable def b_X2_winner_0 (rec : Rk) (x1 : Int) (h : Hp) : Option (Int × Hp) :=
  rf (gR h 2 0 0) 0 fun j1 =>
  bd (f_X0_windAt j1 (gI h 10 x1 0) h) fun v2 h3 =>
  rec 1 [v2, 0, 0] h3
noncomputable def b_X2_winner_1 (rec : Rk) (x2 x3 x4 : Int) (h : Hp) : Option (Int × Hp) :=
  if 4 ≤ x4 then (
    some (x2, h)
  ) else (
    ck (0 ≤ x4 ∧ x4 < 4) <|
    if (gI h 31 0 x4) ≤ x3 then (
      rec 2 [x2, x3, x4] h
    ) else (
      ck (0 ≤ x4 ∧ x4 < 4) <|
      lt (gI h 31 0 x4) fun z1 =>
      rec 2 [x4, z1, x4] h
    )
  )
noncomputable def b_X2_winner_2 (rec : Rk) (x2 x3 x4 : Int) (h : Hp) : Option (Int × Hp) :=
  ck (-2147483648 ≤ x4 + 1 ∧ x4 + 1 < 2147483648) <|
  rec 1 [x2, x3, x4 + 1] h
noncomputable def g_X2_winner (n : Nat) : Rk := Nat.rec (motive := fun _ => Rk) (fun _ _ _ => none) (fun _ rec k l h => if k = 0 then b_X2_winner_0 rec (l.getD 0 0) h else if k = 1 then b_X2_winner_1 rec (l.getD 0 0) (l.getD 1 0) (l.getD 2 0) h else if k = 2 then b_X2_winner_2 rec (l.getD 0 0) (l.getD 1 0) (l.getD 2 0) h else none) n
noncomputable def f_X2_winner (x1 : Int) (h : Hp) : Option (Int × Hp) := g_X2_winner FU 0 [x1] h
set_option maxHeartbeats 4000000 in
set_option maxRecDepth 100000 in
theorem t_X2_winner_0 (E : xE) (d : Nat) (rec : Rk) (r : Int × Hp) (hr_17 : ∀ (x2 x3 x4 : Int) (h : Hp), Lay h → rec 1 [x2, x3, x4] h = some r → X E mX2_winner (d + 2) (0, 0) (0, 0) 17 [some (xr 2 0), none, some (xi x2), some (xi x3), some (xi x4)] [] h (PoI r)) (x1 : Int) (h : Hp) (hL : Lay h) (hF : b_X2_winner_0 rec x1 h = some r) : X E mX2_winner (d + 2) (0, 0) (0, 0) 0 [some (xr 2 0), some (xr 10 x1), none, none, none] [] h (PoI r) := by
  unfold b_X2_winner_0 at hF
  refine x_aload_n (i := 0) (b := 1) dX2_winner_0 rfl rfl rfl ?_
  obtain ⟨j1, e_j1, hF⟩ := rf_e hF
  refine x_getR (v := some (0, j1)) (b := 4) fk_X2_43 dX2_winner_1 rfl e_j1 rfl ?_
  refine x_aload_n (i := 1) (b := 5) dX2_winner_4 rfl rfl rfl ?_
  refine x_getI (v := gI h 10 x1 0) (b := 8) fk_X2_73 dX2_winner_5 (by decide) rfl rfl ?_
  obtain ⟨v2, h3, hq, hF⟩ := bd_e hF
  refine x_callV (as := [xi (gI h 10 x1 0)]) (rest := []) (b := 11) (c_X0_windAt d j1 (gI h 10 x1 0) h _ hL hq) dX2_winner_8 cw_X2_134 ⟨_, _, rfl, Nat.le_of_ble_eq_true rfl⟩ rfl rfl (Nat.le_of_ble_eq_true rfl) ⟨Nat.le_refl _, Nat.le_refl _⟩ rfl (fun rv hh hp _ => ?_)
  obtain ⟨rfl, rfl, hL⟩ := hp
  refine x_istore_n (i := 2) (b := 12) (ls2 := [some (xr 2 0), some (xr 10 x1), some (xi v2), none, none]) dX2_winner_11 rfl (Nat.le_of_ble_eq_true rfl) rfl rfl ?_
  refine x_iconst (n := 0) (b := 13) dX2_winner_12 (by decide) rfl ?_
  refine x_istore_n (i := 3) (b := 14) (ls2 := [some (xr 2 0), some (xr 10 x1), some (xi v2), some (xi 0), none]) dX2_winner_13 rfl (Nat.le_of_ble_eq_true rfl) rfl rfl ?_
  refine x_iconst (n := 0) (b := 15) dX2_winner_14 (by decide) rfl ?_
  refine x_istore (i := 4) (b := 17) (ls2 := [some (xr 2 0), some (xr 10 x1), some (xi v2), some (xi 0), some (xi 0)]) dX2_winner_15 (Nat.le_of_ble_eq_true rfl) rfl rfl ?_
  exact x_dp (ls2 := [some (xr 2 0), none, some (xi v2), some (xi 0), some (xi 0)]) ⟨rfl, rfl, rfl, rfl, trivial⟩ (hr_17 v2 0 0 h3 hL hF)
set_option maxHeartbeats 4000000 in
set_option maxRecDepth 100000 in
theorem t_X2_winner_1 (E : xE) (d : Nat) (rec : Rk) (r : Int × Hp) (hr_45 : ∀ (x2 x3 x4 : Int) (h : Hp), Lay h → rec 2 [x2, x3, x4] h = some r → X E mX2_winner (d + 2) (0, 0) (0, 0) 45 [some (xr 2 0), none, some (xi x2), some (xi x3), some (xi x4)] [] h (PoI r)) (x2 x3 x4 : Int) (h : Hp) (hL : Lay h) (hF : b_X2_winner_1 rec x2 x3 x4 h = some r) : X E mX2_winner (d + 2) (0, 0) (0, 0) 17 [some (xr 2 0), none, some (xi x2), some (xi x3), some (xi x4)] [] h (PoI r) := by
  unfold b_X2_winner_1 at hF
  refine x_iload (i := 4) (b := 19) dX2_winner_17 rfl rfl ?_
  refine x_iconst (n := 4) (b := 20) dX2_winner_19 (by decide) rfl ?_
  refine x_icmp_ge (tgt := 51) (b := 23) dX2_winner_20 (by decide) rfl (fun hc => ?_) (fun hc => ?_)
  · replace hF := br_T hc hF
    refine x_iload_n (i := 2) (b := 52) dX2_winner_51 rfl rfl rfl ?_
    refine x_ireturn dX2_winner_52 rfl ⟨Nat.le_refl _, Nat.le_refl _⟩ ?_
    cases hF
    exact ⟨rfl, rfl, hL⟩
  · replace hF := br_F hc hF
    refine x_aload_n (i := 0) (b := 24) dX2_winner_23 rfl rfl rfl ?_
    refine x_getL (j := 0) (t := (31, 0, true)) (b := 27) fk_X2_25 dX2_winner_24 rfl hL rfl rfl rfl ?_
    refine x_iload (i := 4) (b := 29) dX2_winner_27 rfl rfl ?_
    obtain ⟨hs, hF⟩ := ck_e hF
    refine x_iald (v := gI h 31 0 x4) (b := 30) ak_31 dX2_winner_29 hs rfl rfl ?_
    refine x_iload_n (i := 3) (b := 31) dX2_winner_30 rfl rfl rfl ?_
    refine x_icmp_le (tgt := 45) (b := 34) dX2_winner_31 (by decide) rfl (fun hc => ?_) (fun hc => ?_)
    · replace hF := br_T hc hF
      exact x_dp (ls2 := [some (xr 2 0), none, some (xi x2), some (xi x3), some (xi x4)]) ⟨rfl, rfl, rfl, rfl, trivial⟩ (hr_45 x2 x3 x4 h hL hF)
    · replace hF := br_F hc hF
      refine x_iload (i := 4) (b := 36) dX2_winner_34 rfl rfl ?_
      refine x_istore_n (i := 2) (b := 37) (ls2 := [some (xr 2 0), none, some (xi x4), some (xi x3), some (xi x4)]) dX2_winner_36 rfl (Nat.le_of_ble_eq_true rfl) rfl rfl ?_
      refine x_aload_n (i := 0) (b := 38) dX2_winner_37 rfl rfl rfl ?_
      refine x_getL (j := 0) (t := (31, 0, true)) (b := 41) fk_X2_25 dX2_winner_38 rfl hL rfl rfl rfl ?_
      refine x_iload (i := 4) (b := 43) dX2_winner_41 rfl rfl ?_
      obtain ⟨hs, hF⟩ := ck_e hF
      refine x_iald (v := gI h 31 0 x4) (b := 44) ak_31 dX2_winner_43 hs rfl rfl ?_
      obtain ⟨z1, e_z1, hF⟩ := lt_e hF
      refine x_eq (y := z1) e_z1 ?_
      refine x_istore_n (i := 3) (b := 45) (ls2 := [some (xr 2 0), none, some (xi x4), some (xi z1), some (xi x4)]) dX2_winner_44 rfl (Nat.le_of_ble_eq_true rfl) rfl rfl ?_
      exact x_dp (ls2 := [some (xr 2 0), none, some (xi x4), some (xi z1), some (xi x4)]) ⟨rfl, rfl, rfl, rfl, trivial⟩ (hr_45 x4 z1 x4 h hL hF)
set_option maxHeartbeats 4000000 in
set_option maxRecDepth 100000 in
theorem t_X2_winner_2 (E : xE) (d : Nat) (rec : Rk) (r : Int × Hp) (hr_17 : ∀ (x2 x3 x4 : Int) (h : Hp), Lay h → rec 1 [x2, x3, x4] h = some r → X E mX2_winner (d + 2) (0, 0) (0, 0) 17 [some (xr 2 0), none, some (xi x2), some (xi x3), some (xi x4)] [] h (PoI r)) (x2 x3 x4 : Int) (h : Hp) (hL : Lay h) (hF : b_X2_winner_2 rec x2 x3 x4 h = some r) : X E mX2_winner (d + 2) (0, 0) (0, 0) 45 [some (xr 2 0), none, some (xi x2), some (xi x3), some (xi x4)] [] h (PoI r) := by
  unfold b_X2_winner_2 at hF
  obtain ⟨hs, hF⟩ := ck_e hF
  refine x_iinc (i := 4) (b := 48) (ls2 := [some (xr 2 0), none, some (xi x2), some (xi x3), some (xi (x4 + 1))]) dX2_winner_45 rfl (Nat.le_of_ble_eq_true rfl) hs rfl rfl ?_
  refine x_goto (tgt := 17) dX2_winner_48 (by decide) ?_
  exact x_dp (ls2 := [some (xr 2 0), none, some (xi x2), some (xi x3), some (xi (x4 + 1))]) ⟨rfl, rfl, rfl, rfl, trivial⟩ (hr_17 x2 x3 (x4 + 1) h hL hF)
set_option maxHeartbeats 4000000 in
set_option maxRecDepth 100000 in
theorem u_X2_winner (E : xE) (d : Nat) (r : Int × Hp) : ∀ n : Nat, (∀ (x1 : Int) (h : Hp), Lay h → g_X2_winner n 0 [x1] h = some r → X E mX2_winner (d + 2) (0, 0) (0, 0) 0 [some (xr 2 0), some (xr 10 x1), none, none, none] [] h (PoI r)) ∧ (∀ (x2 x3 x4 : Int) (h : Hp), Lay h → g_X2_winner n 1 [x2, x3, x4] h = some r → X E mX2_winner (d + 2) (0, 0) (0, 0) 17 [some (xr 2 0), none, some (xi x2), some (xi x3), some (xi x4)] [] h (PoI r)) ∧ (∀ (x2 x3 x4 : Int) (h : Hp), Lay h → g_X2_winner n 2 [x2, x3, x4] h = some r → X E mX2_winner (d + 2) (0, 0) (0, 0) 45 [some (xr 2 0), none, some (xi x2), some (xi x3), some (xi x4)] [] h (PoI r)) := by
  intro n
  induction n with
  | zero => exact ⟨fun _ _ _ hF => no_e (r := r) hF, fun _ _ _ _ _ hF => no_e (r := r) hF, fun _ _ _ _ _ hF => no_e (r := r) hF⟩
  | succ n ih => exact ⟨fun x1 h hL hF => t_X2_winner_0 E d (g_X2_winner n) r ih.2.1 x1 h hL hF, fun x2 x3 x4 h hL hF => t_X2_winner_1 E d (g_X2_winner n) r ih.2.2 x2 x3 x4 h hL hF, fun x2 x3 x4 h hL hF => t_X2_winner_2 E d (g_X2_winner n) r ih.2.1 x2 x3 x4 h hL hF⟩
theorem c_X2_winner (d : Nat) (x1 : Int) (h : Hp) (r : Int × Hp) (hL : Lay h) (hF : f_X2_winner x1 h = some r) : Sp mX2_winner (d + 2) (0, 0) [xr 2 0, xr 10 x1] h (PoI r) :=
  sp_of (by decide) rfl (Nat.le_of_ble_eq_true rfl) (ls := [some (xr 2 0), some (xr 10 x1), none, none, none]) rfl (fun E _ => (u_X2_winner E d r FU).1 x1 h hL hF)
theorem dX3_copyFrom_0 : decode cX3_copyFrom 0 = .ok (.iconst 0, 1) := by decide +kernel
theorem dX3_copyFrom_1 : decode cX3_copyFrom 1 = .ok (.istore_n 2, 1) := by decide +kernel
theorem dX3_copyFrom_2 : decode cX3_copyFrom 2 = .ok (.iload_n 2, 1) := by decide +kernel
theorem dX3_copyFrom_3 : decode cX3_copyFrom 3 = .ok (.bipush 60, 2) := by decide +kernel
theorem dX3_copyFrom_5 : decode cX3_copyFrom 5 = .ok (.if_icmp .ge 69, 3) := by decide +kernel
theorem dX3_copyFrom_8 : decode cX3_copyFrom 8 = .ok (.aload_n 0, 1) := by decide +kernel
theorem dX3_copyFrom_9 : decode cX3_copyFrom 9 = .ok (.getfield 9, 3) := by decide +kernel
theorem dX3_copyFrom_12 : decode cX3_copyFrom 12 = .ok (.iload_n 2, 1) := by decide +kernel
theorem dX3_copyFrom_13 : decode cX3_copyFrom 13 = .ok (.aload_n 1, 1) := by decide +kernel
theorem dX3_copyFrom_14 : decode cX3_copyFrom 14 = .ok (.getfield 9, 3) := by decide +kernel
theorem dX3_copyFrom_17 : decode cX3_copyFrom 17 = .ok (.iload_n 2, 1) := by decide +kernel
theorem dX3_copyFrom_18 : decode cX3_copyFrom 18 = .ok (.iaload, 1) := by decide +kernel
theorem dX3_copyFrom_19 : decode cX3_copyFrom 19 = .ok (.iastore, 1) := by decide +kernel
theorem dX3_copyFrom_20 : decode cX3_copyFrom 20 = .ok (.aload_n 0, 1) := by decide +kernel
theorem dX3_copyFrom_21 : decode cX3_copyFrom 21 = .ok (.getfield 15, 3) := by decide +kernel
theorem dX3_copyFrom_24 : decode cX3_copyFrom 24 = .ok (.iload_n 2, 1) := by decide +kernel
theorem dX3_copyFrom_25 : decode cX3_copyFrom 25 = .ok (.aload_n 1, 1) := by decide +kernel
theorem dX3_copyFrom_26 : decode cX3_copyFrom 26 = .ok (.getfield 15, 3) := by decide +kernel
theorem dX3_copyFrom_29 : decode cX3_copyFrom 29 = .ok (.iload_n 2, 1) := by decide +kernel
theorem dX3_copyFrom_30 : decode cX3_copyFrom 30 = .ok (.iaload, 1) := by decide +kernel
theorem dX3_copyFrom_31 : decode cX3_copyFrom 31 = .ok (.iastore, 1) := by decide +kernel
theorem dX3_copyFrom_32 : decode cX3_copyFrom 32 = .ok (.aload_n 0, 1) := by decide +kernel
theorem dX3_copyFrom_33 : decode cX3_copyFrom 33 = .ok (.getfield 18, 3) := by decide +kernel
theorem dX3_copyFrom_36 : decode cX3_copyFrom 36 = .ok (.iload_n 2, 1) := by decide +kernel
theorem dX3_copyFrom_37 : decode cX3_copyFrom 37 = .ok (.aload_n 1, 1) := by decide +kernel
theorem dX3_copyFrom_38 : decode cX3_copyFrom 38 = .ok (.getfield 18, 3) := by decide +kernel
theorem dX3_copyFrom_41 : decode cX3_copyFrom 41 = .ok (.iload_n 2, 1) := by decide +kernel
theorem dX3_copyFrom_42 : decode cX3_copyFrom 42 = .ok (.iaload, 1) := by decide +kernel
theorem dX3_copyFrom_43 : decode cX3_copyFrom 43 = .ok (.iastore, 1) := by decide +kernel
theorem dX3_copyFrom_44 : decode cX3_copyFrom 44 = .ok (.aload_n 0, 1) := by decide +kernel
theorem dX3_copyFrom_45 : decode cX3_copyFrom 45 = .ok (.getfield 21, 3) := by decide +kernel
theorem dX3_copyFrom_48 : decode cX3_copyFrom 48 = .ok (.iload_n 2, 1) := by decide +kernel
theorem dX3_copyFrom_49 : decode cX3_copyFrom 49 = .ok (.aload_n 1, 1) := by decide +kernel
theorem dX3_copyFrom_50 : decode cX3_copyFrom 50 = .ok (.getfield 21, 3) := by decide +kernel
theorem dX3_copyFrom_53 : decode cX3_copyFrom 53 = .ok (.iload_n 2, 1) := by decide +kernel
theorem dX3_copyFrom_54 : decode cX3_copyFrom 54 = .ok (.iaload, 1) := by decide +kernel
theorem dX3_copyFrom_55 : decode cX3_copyFrom 55 = .ok (.iastore, 1) := by decide +kernel
theorem dX3_copyFrom_56 : decode cX3_copyFrom 56 = .ok (.aload_n 0, 1) := by decide +kernel
theorem dX3_copyFrom_57 : decode cX3_copyFrom 57 = .ok (.getfield 24, 3) := by decide +kernel
theorem dX3_copyFrom_60 : decode cX3_copyFrom 60 = .ok (.iload_n 2, 1) := by decide +kernel
theorem dX3_copyFrom_61 : decode cX3_copyFrom 61 = .ok (.aload_n 1, 1) := by decide +kernel
theorem dX3_copyFrom_62 : decode cX3_copyFrom 62 = .ok (.getfield 24, 3) := by decide +kernel
theorem dX3_copyFrom_65 : decode cX3_copyFrom 65 = .ok (.iload_n 2, 1) := by decide +kernel
theorem dX3_copyFrom_66 : decode cX3_copyFrom 66 = .ok (.iaload, 1) := by decide +kernel
theorem dX3_copyFrom_67 : decode cX3_copyFrom 67 = .ok (.iastore, 1) := by decide +kernel
theorem dX3_copyFrom_68 : decode cX3_copyFrom 68 = .ok (.iinc 2 1, 3) := by decide +kernel
theorem dX3_copyFrom_71 : decode cX3_copyFrom 71 = .ok (.goto (-69), 3) := by decide +kernel
theorem dX3_copyFrom_74 : decode cX3_copyFrom 74 = .ok (.return_, 1) := by decide +kernel
noncomputable def b_X3_copyFrom_0 (rec : Rk) (x0 x1 : Int) (h : Hp) : Option (Int × Hp) :=
  rec 1 [x0, x1, 0] h
noncomputable def b_X3_copyFrom_1 (rec : Rk) (x0 x1 x2 : Int) (h : Hp) : Option (Int × Hp) :=
  if 60 ≤ x2 then (
    some (0, h)
  ) else (
    ck (0 ≤ x2 ∧ x2 < 60) <|
    ck (0 ≤ x2 ∧ x2 < 60) <|
    lt (sI h 34 x0 x2 (gI h 34 x1 x2)) fun h1 =>
    ck (0 ≤ x2 ∧ x2 < 60) <|
    ck (0 ≤ x2 ∧ x2 < 60) <|
    lt (sI h1 35 x0 x2 (gI h1 35 x1 x2)) fun h2 =>
    ck (0 ≤ x2 ∧ x2 < 60) <|
    ck (0 ≤ x2 ∧ x2 < 60) <|
    lt (sI h2 36 x0 x2 (gI h2 36 x1 x2)) fun h3 =>
    ck (0 ≤ x2 ∧ x2 < 60) <|
    ck (0 ≤ x2 ∧ x2 < 60) <|
    lt (sI h3 37 x0 x2 (gI h3 37 x1 x2)) fun h4 =>
    ck (0 ≤ x2 ∧ x2 < 60) <|
    ck (0 ≤ x2 ∧ x2 < 60) <|
    lt (sI h4 38 x0 x2 (gI h4 38 x1 x2)) fun h5 =>
    ck (-2147483648 ≤ x2 + 1 ∧ x2 + 1 < 2147483648) <|
    rec 1 [x0, x1, x2 + 1] h5
  )
noncomputable def g_X3_copyFrom (n : Nat) : Rk := Nat.rec (motive := fun _ => Rk) (fun _ _ _ => none) (fun _ rec k l h => if k = 0 then b_X3_copyFrom_0 rec (l.getD 0 0) (l.getD 1 0) h else if k = 1 then b_X3_copyFrom_1 rec (l.getD 0 0) (l.getD 1 0) (l.getD 2 0) h else none) n
noncomputable def f_X3_copyFrom (x0 x1 : Int) (h : Hp) : Option (Int × Hp) := g_X3_copyFrom FU 0 [x0, x1] h
set_option maxHeartbeats 4000000 in
set_option maxRecDepth 100000 in
theorem t_X3_copyFrom_0 (E : xE) (d : Nat) (rec : Rk) (r : Int × Hp) (hr_2 : ∀ (x0 x1 x2 : Int) (h : Hp), Lay h → rec 1 [x0, x1, x2] h = some r → X E mX3_copyFrom (d + 1) (0, 0) (0, 0) 2 [some (xr 3 x0), some (xr 3 x1), some (xi x2)] [] h (PoV r)) (x0 x1 : Int) (h : Hp) (hL : Lay h) (hF : b_X3_copyFrom_0 rec x0 x1 h = some r) : X E mX3_copyFrom (d + 1) (0, 0) (0, 0) 0 [some (xr 3 x0), some (xr 3 x1), none] [] h (PoV r) := by
  unfold b_X3_copyFrom_0 at hF
  refine x_iconst (n := 0) (b := 1) dX3_copyFrom_0 (by decide) rfl ?_
  refine x_istore_n (i := 2) (b := 2) (ls2 := [some (xr 3 x0), some (xr 3 x1), some (xi 0)]) dX3_copyFrom_1 rfl (Nat.le_of_ble_eq_true rfl) rfl rfl ?_
  exact x_dp (ls2 := [some (xr 3 x0), some (xr 3 x1), some (xi 0)]) ⟨rfl, rfl, rfl, trivial⟩ (hr_2 x0 x1 0 h hL hF)
set_option maxHeartbeats 4000000 in
set_option maxRecDepth 100000 in
theorem t_X3_copyFrom_1 (E : xE) (d : Nat) (rec : Rk) (r : Int × Hp) (hr_2 : ∀ (x0 x1 x2 : Int) (h : Hp), Lay h → rec 1 [x0, x1, x2] h = some r → X E mX3_copyFrom (d + 1) (0, 0) (0, 0) 2 [some (xr 3 x0), some (xr 3 x1), some (xi x2)] [] h (PoV r)) (x0 x1 x2 : Int) (h : Hp) (hL : Lay h) (hF : b_X3_copyFrom_1 rec x0 x1 x2 h = some r) : X E mX3_copyFrom (d + 1) (0, 0) (0, 0) 2 [some (xr 3 x0), some (xr 3 x1), some (xi x2)] [] h (PoV r) := by
  unfold b_X3_copyFrom_1 at hF
  refine x_iload_n (i := 2) (b := 3) dX3_copyFrom_2 rfl rfl rfl ?_
  refine x_bipush (n := 60) (b := 5) dX3_copyFrom_3 (by decide) rfl ?_
  refine x_icmp_ge (tgt := 74) (b := 8) dX3_copyFrom_5 (by decide) rfl (fun hc => ?_) (fun hc => ?_)
  · replace hF := br_T hc hF
    refine x_return dX3_copyFrom_74 rfl ⟨Nat.le_refl _, Nat.le_refl _⟩ ?_
    cases hF
    exact ⟨rfl, rfl, hL⟩
  · replace hF := br_F hc hF
    refine x_aload_n (i := 0) (b := 9) dX3_copyFrom_8 rfl rfl rfl ?_
    refine x_getL (j := x0) (t := (34, 0, true)) (b := 12) fk_X3_9 dX3_copyFrom_9 rfl hL rfl rfl rfl ?_
    refine x_iload_n (i := 2) (b := 13) dX3_copyFrom_12 rfl rfl rfl ?_
    refine x_aload_n (i := 1) (b := 14) dX3_copyFrom_13 rfl rfl rfl ?_
    refine x_getL (j := x1) (t := (34, 0, true)) (b := 17) fk_X3_9 dX3_copyFrom_14 rfl hL rfl rfl rfl ?_
    refine x_iload_n (i := 2) (b := 18) dX3_copyFrom_17 rfl rfl rfl ?_
    obtain ⟨hs, hF⟩ := ck_e hF
    refine x_iald (v := gI h 34 x1 x2) (b := 19) ak_34 dX3_copyFrom_18 hs rfl rfl ?_
    obtain ⟨hs, hF⟩ := ck_e hF
    have hs1 := hs
    refine x_iast (b := 20) ak_34 dX3_copyFrom_19 hs1 rfl ?_
    obtain ⟨h1, e_h1, hF⟩ := lt_e hF
    refine x_hp (h2 := h1) e_h1 ?_
    replace hL : Lay h1 := by rw [← e_h1]; exact hL
    refine x_aload_n (i := 0) (b := 21) dX3_copyFrom_20 rfl rfl rfl ?_
    refine x_getL (j := x0) (t := (35, 0, true)) (b := 24) fk_X3_15 dX3_copyFrom_21 rfl hL rfl rfl rfl ?_
    refine x_iload_n (i := 2) (b := 25) dX3_copyFrom_24 rfl rfl rfl ?_
    refine x_aload_n (i := 1) (b := 26) dX3_copyFrom_25 rfl rfl rfl ?_
    refine x_getL (j := x1) (t := (35, 0, true)) (b := 29) fk_X3_15 dX3_copyFrom_26 rfl hL rfl rfl rfl ?_
    refine x_iload_n (i := 2) (b := 30) dX3_copyFrom_29 rfl rfl rfl ?_
    obtain ⟨hs, hF⟩ := ck_e hF
    refine x_iald (v := gI h1 35 x1 x2) (b := 31) ak_35 dX3_copyFrom_30 hs rfl rfl ?_
    obtain ⟨hs, hF⟩ := ck_e hF
    have hs1 := hs
    refine x_iast (b := 32) ak_35 dX3_copyFrom_31 hs1 rfl ?_
    obtain ⟨h2, e_h2, hF⟩ := lt_e hF
    refine x_hp (h2 := h2) e_h2 ?_
    replace hL : Lay h2 := by rw [← e_h2]; exact hL
    refine x_aload_n (i := 0) (b := 33) dX3_copyFrom_32 rfl rfl rfl ?_
    refine x_getL (j := x0) (t := (36, 0, true)) (b := 36) fk_X3_18 dX3_copyFrom_33 rfl hL rfl rfl rfl ?_
    refine x_iload_n (i := 2) (b := 37) dX3_copyFrom_36 rfl rfl rfl ?_
    refine x_aload_n (i := 1) (b := 38) dX3_copyFrom_37 rfl rfl rfl ?_
    refine x_getL (j := x1) (t := (36, 0, true)) (b := 41) fk_X3_18 dX3_copyFrom_38 rfl hL rfl rfl rfl ?_
    refine x_iload_n (i := 2) (b := 42) dX3_copyFrom_41 rfl rfl rfl ?_
    obtain ⟨hs, hF⟩ := ck_e hF
    refine x_iald (v := gI h2 36 x1 x2) (b := 43) ak_36 dX3_copyFrom_42 hs rfl rfl ?_
    obtain ⟨hs, hF⟩ := ck_e hF
    have hs1 := hs
    refine x_iast (b := 44) ak_36 dX3_copyFrom_43 hs1 rfl ?_
    obtain ⟨h3, e_h3, hF⟩ := lt_e hF
    refine x_hp (h2 := h3) e_h3 ?_
    replace hL : Lay h3 := by rw [← e_h3]; exact hL
    refine x_aload_n (i := 0) (b := 45) dX3_copyFrom_44 rfl rfl rfl ?_
    refine x_getL (j := x0) (t := (37, 0, true)) (b := 48) fk_X3_21 dX3_copyFrom_45 rfl hL rfl rfl rfl ?_
    refine x_iload_n (i := 2) (b := 49) dX3_copyFrom_48 rfl rfl rfl ?_
    refine x_aload_n (i := 1) (b := 50) dX3_copyFrom_49 rfl rfl rfl ?_
    refine x_getL (j := x1) (t := (37, 0, true)) (b := 53) fk_X3_21 dX3_copyFrom_50 rfl hL rfl rfl rfl ?_
    refine x_iload_n (i := 2) (b := 54) dX3_copyFrom_53 rfl rfl rfl ?_
    obtain ⟨hs, hF⟩ := ck_e hF
    refine x_iald (v := gI h3 37 x1 x2) (b := 55) ak_37 dX3_copyFrom_54 hs rfl rfl ?_
    obtain ⟨hs, hF⟩ := ck_e hF
    have hs1 := hs
    refine x_iast (b := 56) ak_37 dX3_copyFrom_55 hs1 rfl ?_
    obtain ⟨h4, e_h4, hF⟩ := lt_e hF
    refine x_hp (h2 := h4) e_h4 ?_
    replace hL : Lay h4 := by rw [← e_h4]; exact hL
    refine x_aload_n (i := 0) (b := 57) dX3_copyFrom_56 rfl rfl rfl ?_
    refine x_getL (j := x0) (t := (38, 0, true)) (b := 60) fk_X3_24 dX3_copyFrom_57 rfl hL rfl rfl rfl ?_
    refine x_iload_n (i := 2) (b := 61) dX3_copyFrom_60 rfl rfl rfl ?_
    refine x_aload_n (i := 1) (b := 62) dX3_copyFrom_61 rfl rfl rfl ?_
    refine x_getL (j := x1) (t := (38, 0, true)) (b := 65) fk_X3_24 dX3_copyFrom_62 rfl hL rfl rfl rfl ?_
    refine x_iload_n (i := 2) (b := 66) dX3_copyFrom_65 rfl rfl rfl ?_
    obtain ⟨hs, hF⟩ := ck_e hF
    refine x_iald (v := gI h4 38 x1 x2) (b := 67) ak_38 dX3_copyFrom_66 hs rfl rfl ?_
    obtain ⟨hs, hF⟩ := ck_e hF
    have hs1 := hs
    refine x_iast (b := 68) ak_38 dX3_copyFrom_67 hs1 rfl ?_
    obtain ⟨h5, e_h5, hF⟩ := lt_e hF
    refine x_hp (h2 := h5) e_h5 ?_
    replace hL : Lay h5 := by rw [← e_h5]; exact hL
    obtain ⟨hs, hF⟩ := ck_e hF
    refine x_iinc (i := 2) (b := 71) (ls2 := [some (xr 3 x0), some (xr 3 x1), some (xi (x2 + 1))]) dX3_copyFrom_68 rfl (Nat.le_of_ble_eq_true rfl) hs rfl rfl ?_
    refine x_goto (tgt := 2) dX3_copyFrom_71 (by decide) ?_
    exact x_dp (ls2 := [some (xr 3 x0), some (xr 3 x1), some (xi (x2 + 1))]) ⟨rfl, rfl, rfl, trivial⟩ (hr_2 x0 x1 (x2 + 1) h5 hL hF)
set_option maxHeartbeats 4000000 in
set_option maxRecDepth 100000 in
theorem u_X3_copyFrom (E : xE) (d : Nat) (r : Int × Hp) : ∀ n : Nat, (∀ (x0 x1 : Int) (h : Hp), Lay h → g_X3_copyFrom n 0 [x0, x1] h = some r → X E mX3_copyFrom (d + 1) (0, 0) (0, 0) 0 [some (xr 3 x0), some (xr 3 x1), none] [] h (PoV r)) ∧ (∀ (x0 x1 x2 : Int) (h : Hp), Lay h → g_X3_copyFrom n 1 [x0, x1, x2] h = some r → X E mX3_copyFrom (d + 1) (0, 0) (0, 0) 2 [some (xr 3 x0), some (xr 3 x1), some (xi x2)] [] h (PoV r)) := by
  intro n
  induction n with
  | zero => exact ⟨fun _ _ _ _ hF => no_e (r := r) hF, fun _ _ _ _ _ hF => no_e (r := r) hF⟩
  | succ n ih => exact ⟨fun x0 x1 h hL hF => t_X3_copyFrom_0 E d (g_X3_copyFrom n) r ih.2 x0 x1 h hL hF, fun x0 x1 x2 h hL hF => t_X3_copyFrom_1 E d (g_X3_copyFrom n) r ih.2 x0 x1 x2 h hL hF⟩
theorem c_X3_copyFrom (d : Nat) (x0 x1 : Int) (h : Hp) (r : Int × Hp) (hL : Lay h) (hF : f_X3_copyFrom x0 x1 h = some r) : Sp mX3_copyFrom (d + 1) (0, 0) [xr 3 x0, xr 3 x1] h (PoV r) :=
  sp_of (by decide) rfl (Nat.le_of_ble_eq_true rfl) (ls := [some (xr 3 x0), some (xr 3 x1), none]) rfl (fun E _ => (u_X3_copyFrom E d r FU).1 x0 x1 h hL hF)
theorem dX4_begin_0 : decode cX4_begin 0 = .ok (.aload_n 0, 1) := by decide +kernel
theorem dX4_begin_1 : decode cX4_begin 1 = .ok (.iload_n 1, 1) := by decide +kernel
theorem dX4_begin_2 : decode cX4_begin 2 = .ok (.putfield 9, 3) := by decide +kernel
theorem dX4_begin_5 : decode cX4_begin 5 = .ok (.aload_n 0, 1) := by decide +kernel
theorem dX4_begin_6 : decode cX4_begin 6 = .ok (.iconst 0, 1) := by decide +kernel
theorem dX4_begin_7 : decode cX4_begin 7 = .ok (.putfield 15, 3) := by decide +kernel
theorem dX4_begin_10 : decode cX4_begin 10 = .ok (.aload_n 0, 1) := by decide +kernel
theorem dX4_begin_11 : decode cX4_begin 11 = .ok (.iconst 0, 1) := by decide +kernel
theorem dX4_begin_12 : decode cX4_begin 12 = .ok (.putfield 18, 3) := by decide +kernel
theorem dX4_begin_15 : decode cX4_begin 15 = .ok (.aload_n 0, 1) := by decide +kernel
theorem dX4_begin_16 : decode cX4_begin 16 = .ok (.iconst 0, 1) := by decide +kernel
theorem dX4_begin_17 : decode cX4_begin 17 = .ok (.putfield 21, 3) := by decide +kernel
theorem dX4_begin_20 : decode cX4_begin 20 = .ok (.aload_n 0, 1) := by decide +kernel
theorem dX4_begin_21 : decode cX4_begin 21 = .ok (.bipush 59, 2) := by decide +kernel
theorem dX4_begin_23 : decode cX4_begin 23 = .ok (.putfield 24, 3) := by decide +kernel
theorem dX4_begin_26 : decode cX4_begin 26 = .ok (.aload_n 0, 1) := by decide +kernel
theorem dX4_begin_27 : decode cX4_begin 27 = .ok (.iconst 0, 1) := by decide +kernel
theorem dX4_begin_28 : decode cX4_begin 28 = .ok (.putfield 27, 3) := by decide +kernel
theorem dX4_begin_31 : decode cX4_begin 31 = .ok (.aload_n 0, 1) := by decide +kernel
theorem dX4_begin_32 : decode cX4_begin 32 = .ok (.iconst (-1), 1) := by decide +kernel
theorem dX4_begin_33 : decode cX4_begin 33 = .ok (.putfield 30, 3) := by decide +kernel
theorem dX4_begin_36 : decode cX4_begin 36 = .ok (.aload_n 0, 1) := by decide +kernel
theorem dX4_begin_37 : decode cX4_begin 37 = .ok (.bipush 99, 2) := by decide +kernel
theorem dX4_begin_39 : decode cX4_begin 39 = .ok (.putfield 33, 3) := by decide +kernel
theorem dX4_begin_42 : decode cX4_begin 42 = .ok (.aload_n 0, 1) := by decide +kernel
theorem dX4_begin_43 : decode cX4_begin 43 = .ok (.iconst 0, 1) := by decide +kernel
theorem dX4_begin_44 : decode cX4_begin 44 = .ok (.putfield 36, 3) := by decide +kernel
theorem dX4_begin_47 : decode cX4_begin 47 = .ok (.aload_n 0, 1) := by decide +kernel
theorem dX4_begin_48 : decode cX4_begin 48 = .ok (.iconst 0, 1) := by decide +kernel
theorem dX4_begin_49 : decode cX4_begin 49 = .ok (.putfield 39, 3) := by decide +kernel
theorem dX4_begin_52 : decode cX4_begin 52 = .ok (.return_, 1) := by decide +kernel
noncomputable def b_X4_begin_0 (rec : Rk) (x0 x1 : Int) (h : Hp) : Option (Int × Hp) :=
  lt (sI h 4 x0 0 x1) fun h1 =>
  lt (sI h1 4 x0 1 0) fun h2 =>
  lt (sI h2 4 x0 2 0) fun h3 =>
  lt (sI h3 4 x0 3 0) fun h4 =>
  lt (sI h4 4 x0 4 59) fun h5 =>
  lt (sI h5 4 x0 5 0) fun h6 =>
  lt (sI h6 4 x0 6 (-1)) fun h7 =>
  lt (sI h7 4 x0 7 99) fun h8 =>
  lt (sI h8 4 x0 8 0) fun h9 =>
  lt (sI h9 4 x0 9 0) fun h10 =>
  some (0, h10)
noncomputable def g_X4_begin (n : Nat) : Rk := Nat.rec (motive := fun _ => Rk) (fun _ _ _ => none) (fun _ rec k l h => if k = 0 then b_X4_begin_0 rec (l.getD 0 0) (l.getD 1 0) h else none) n
noncomputable def f_X4_begin (x0 x1 : Int) (h : Hp) : Option (Int × Hp) := g_X4_begin FU 0 [x0, x1] h
set_option maxHeartbeats 4000000 in
set_option maxRecDepth 100000 in
theorem t_X4_begin_0 (E : xE) (d : Nat) (rec : Rk) (r : Int × Hp) (x0 x1 : Int) (h : Hp) (hL : Lay h) (hF : b_X4_begin_0 rec x0 x1 h = some r) : X E mX4_begin (d + 1) (0, 0) (0, 0) 0 [some (xr 4 x0), some (xi x1)] [] h (PoV r) := by
  unfold b_X4_begin_0 at hF
  refine x_aload_n (i := 0) (b := 1) dX4_begin_0 rfl rfl rfl ?_
  refine x_iload_n (i := 1) (b := 2) dX4_begin_1 rfl rfl rfl ?_
  refine x_putI (b := 5) fk_X4_9 dX4_begin_2 rfl rfl 0 rfl ?_
  obtain ⟨h1, e_h1, hF⟩ := lt_e hF
  refine x_hp (h2 := h1) e_h1 ?_
  replace hL : Lay h1 := by rw [← e_h1]; exact hL
  refine x_aload_n (i := 0) (b := 6) dX4_begin_5 rfl rfl rfl ?_
  refine x_iconst (n := 0) (b := 7) dX4_begin_6 (by decide) rfl ?_
  refine x_putI (b := 10) fk_X4_15 dX4_begin_7 rfl rfl 1 rfl ?_
  obtain ⟨h2, e_h2, hF⟩ := lt_e hF
  refine x_hp (h2 := h2) e_h2 ?_
  replace hL : Lay h2 := by rw [← e_h2]; exact hL
  refine x_aload_n (i := 0) (b := 11) dX4_begin_10 rfl rfl rfl ?_
  refine x_iconst (n := 0) (b := 12) dX4_begin_11 (by decide) rfl ?_
  refine x_putI (b := 15) fk_X4_18 dX4_begin_12 rfl rfl 2 rfl ?_
  obtain ⟨h3, e_h3, hF⟩ := lt_e hF
  refine x_hp (h2 := h3) e_h3 ?_
  replace hL : Lay h3 := by rw [← e_h3]; exact hL
  refine x_aload_n (i := 0) (b := 16) dX4_begin_15 rfl rfl rfl ?_
  refine x_iconst (n := 0) (b := 17) dX4_begin_16 (by decide) rfl ?_
  refine x_putI (b := 20) fk_X4_21 dX4_begin_17 rfl rfl 3 rfl ?_
  obtain ⟨h4, e_h4, hF⟩ := lt_e hF
  refine x_hp (h2 := h4) e_h4 ?_
  replace hL : Lay h4 := by rw [← e_h4]; exact hL
  refine x_aload_n (i := 0) (b := 21) dX4_begin_20 rfl rfl rfl ?_
  refine x_bipush (n := 59) (b := 23) dX4_begin_21 (by decide) rfl ?_
  refine x_putI (b := 26) fk_X4_24 dX4_begin_23 rfl rfl 4 rfl ?_
  obtain ⟨h5, e_h5, hF⟩ := lt_e hF
  refine x_hp (h2 := h5) e_h5 ?_
  replace hL : Lay h5 := by rw [← e_h5]; exact hL
  refine x_aload_n (i := 0) (b := 27) dX4_begin_26 rfl rfl rfl ?_
  refine x_iconst (n := 0) (b := 28) dX4_begin_27 (by decide) rfl ?_
  refine x_putI (b := 31) fk_X4_27 dX4_begin_28 rfl rfl 5 rfl ?_
  obtain ⟨h6, e_h6, hF⟩ := lt_e hF
  refine x_hp (h2 := h6) e_h6 ?_
  replace hL : Lay h6 := by rw [← e_h6]; exact hL
  refine x_aload_n (i := 0) (b := 32) dX4_begin_31 rfl rfl rfl ?_
  refine x_iconst (n := (-1)) (b := 33) dX4_begin_32 (by decide) rfl ?_
  refine x_putI (b := 36) fk_X4_30 dX4_begin_33 rfl rfl 6 rfl ?_
  obtain ⟨h7, e_h7, hF⟩ := lt_e hF
  refine x_hp (h2 := h7) e_h7 ?_
  replace hL : Lay h7 := by rw [← e_h7]; exact hL
  refine x_aload_n (i := 0) (b := 37) dX4_begin_36 rfl rfl rfl ?_
  refine x_bipush (n := 99) (b := 39) dX4_begin_37 (by decide) rfl ?_
  refine x_putI (b := 42) fk_X4_33 dX4_begin_39 rfl rfl 7 rfl ?_
  obtain ⟨h8, e_h8, hF⟩ := lt_e hF
  refine x_hp (h2 := h8) e_h8 ?_
  replace hL : Lay h8 := by rw [← e_h8]; exact hL
  refine x_aload_n (i := 0) (b := 43) dX4_begin_42 rfl rfl rfl ?_
  refine x_iconst (n := 0) (b := 44) dX4_begin_43 (by decide) rfl ?_
  refine x_putI (b := 47) fk_X4_36 dX4_begin_44 rfl rfl 8 rfl ?_
  obtain ⟨h9, e_h9, hF⟩ := lt_e hF
  refine x_hp (h2 := h9) e_h9 ?_
  replace hL : Lay h9 := by rw [← e_h9]; exact hL
  refine x_aload_n (i := 0) (b := 48) dX4_begin_47 rfl rfl rfl ?_
  refine x_iconst (n := 0) (b := 49) dX4_begin_48 (by decide) rfl ?_
  refine x_putI (b := 52) fk_X4_39 dX4_begin_49 rfl rfl 9 rfl ?_
  obtain ⟨h10, e_h10, hF⟩ := lt_e hF
  refine x_hp (h2 := h10) e_h10 ?_
  replace hL : Lay h10 := by rw [← e_h10]; exact hL
  refine x_return dX4_begin_52 rfl ⟨Nat.le_refl _, Nat.le_refl _⟩ ?_
  cases hF
  exact ⟨rfl, rfl, hL⟩
set_option maxHeartbeats 4000000 in
set_option maxRecDepth 100000 in
theorem u_X4_begin (E : xE) (d : Nat) (r : Int × Hp) : ∀ n : Nat, (∀ (x0 x1 : Int) (h : Hp), Lay h → g_X4_begin n 0 [x0, x1] h = some r → X E mX4_begin (d + 1) (0, 0) (0, 0) 0 [some (xr 4 x0), some (xi x1)] [] h (PoV r)) := by
  intro n
  induction n with
  | zero => exact fun _ _ _ _ hF => no_e (r := r) hF
  | succ n ih => exact fun x0 x1 h hL hF => t_X4_begin_0 E d (g_X4_begin n) r  x0 x1 h hL hF
theorem c_X4_begin (d : Nat) (x0 x1 : Int) (h : Hp) (r : Int × Hp) (hL : Lay h) (hF : f_X4_begin x0 x1 h = some r) : Sp mX4_begin (d + 1) (0, 0) [xr 4 x0, xi x1] h (PoV r) :=
  sp_of (by decide) rfl (Nat.le_of_ble_eq_true rfl) (ls := [some (xr 4 x0), some (xi x1)]) rfl (fun E _ => (u_X4_begin E d r FU) x0 x1 h hL hF)
theorem dX5_add_0 : decode cX5_add 0 = .ok (.aload_n 0, 1) := by decide +kernel
theorem dX5_add_1 : decode cX5_add 1 = .ok (.getfield 25, 3) := by decide +kernel
theorem dX5_add_4 : decode cX5_add 4 = .ok (.ifCond .lt 12, 3) := by decide +kernel
theorem dX5_add_7 : decode cX5_add 7 = .ok (.aload_n 0, 1) := by decide +kernel
theorem dX5_add_8 : decode cX5_add 8 = .ok (.getfield 25, 3) := by decide +kernel
theorem dX5_add_11 : decode cX5_add 11 = .ok (.bipush 32, 2) := by decide +kernel
theorem dX5_add_13 : decode cX5_add 13 = .ok (.if_icmp .lt 5, 3) := by decide +kernel
theorem dX5_add_16 : decode cX5_add 16 = .ok (.iconst (-1), 1) := by decide +kernel
theorem dX5_add_17 : decode cX5_add 17 = .ok (.ireturn, 1) := by decide +kernel
theorem dX5_add_18 : decode cX5_add 18 = .ok (.aload_n 0, 1) := by decide +kernel
theorem dX5_add_19 : decode cX5_add 19 = .ok (.getfield 11, 3) := by decide +kernel
theorem dX5_add_22 : decode cX5_add 22 = .ok (.aload_n 0, 1) := by decide +kernel
theorem dX5_add_23 : decode cX5_add 23 = .ok (.getfield 25, 3) := by decide +kernel
theorem dX5_add_26 : decode cX5_add 26 = .ok (.iload_n 1, 1) := by decide +kernel
theorem dX5_add_27 : decode cX5_add 27 = .ok (.iastore, 1) := by decide +kernel
theorem dX5_add_28 : decode cX5_add 28 = .ok (.aload_n 0, 1) := by decide +kernel
theorem dX5_add_29 : decode cX5_add 29 = .ok (.getfield 15, 3) := by decide +kernel
theorem dX5_add_32 : decode cX5_add 32 = .ok (.aload_n 0, 1) := by decide +kernel
theorem dX5_add_33 : decode cX5_add 33 = .ok (.getfield 25, 3) := by decide +kernel
theorem dX5_add_36 : decode cX5_add 36 = .ok (.iload_n 2, 1) := by decide +kernel
theorem dX5_add_37 : decode cX5_add 37 = .ok (.iastore, 1) := by decide +kernel
theorem dX5_add_38 : decode cX5_add 38 = .ok (.aload_n 0, 1) := by decide +kernel
theorem dX5_add_39 : decode cX5_add 39 = .ok (.getfield 18, 3) := by decide +kernel
theorem dX5_add_42 : decode cX5_add 42 = .ok (.aload_n 0, 1) := by decide +kernel
theorem dX5_add_43 : decode cX5_add 43 = .ok (.getfield 25, 3) := by decide +kernel
theorem dX5_add_46 : decode cX5_add 46 = .ok (.iload_n 3, 1) := by decide +kernel
theorem dX5_add_47 : decode cX5_add 47 = .ok (.iastore, 1) := by decide +kernel
theorem dX5_add_48 : decode cX5_add 48 = .ok (.aload_n 0, 1) := by decide +kernel
theorem dX5_add_49 : decode cX5_add 49 = .ok (.dup, 1) := by decide +kernel
theorem dX5_add_50 : decode cX5_add 50 = .ok (.getfield 25, 3) := by decide +kernel
theorem dX5_add_53 : decode cX5_add 53 = .ok (.iconst 1, 1) := by decide +kernel
theorem dX5_add_54 : decode cX5_add 54 = .ok (.iadd, 1) := by decide +kernel
theorem dX5_add_55 : decode cX5_add 55 = .ok (.putfield 25, 3) := by decide +kernel
theorem dX5_add_58 : decode cX5_add 58 = .ok (.aload_n 0, 1) := by decide +kernel
theorem dX5_add_59 : decode cX5_add 59 = .ok (.getfield 25, 3) := by decide +kernel
theorem dX5_add_62 : decode cX5_add 62 = .ok (.iconst 1, 1) := by decide +kernel
theorem dX5_add_63 : decode cX5_add 63 = .ok (.isub, 1) := by decide +kernel
theorem dX5_add_64 : decode cX5_add 64 = .ok (.ireturn, 1) := by decide +kernel
noncomputable def b_X5_add_0 (rec : Rk) (x1 x2 x3 : Int) (h : Hp) : Option (Int × Hp) :=
  if (gI h 5 0 4) < 0 then (
    some ((-1), h)
  ) else (
    if (gI h 5 0 4) < 32 then (
      ck (0 ≤ (gI h 5 0 4) ∧ (gI h 5 0 4) < 32) <|
      lt (sI h 39 0 (gI h 5 0 4) x1) fun h1 =>
      ck (0 ≤ (gI h1 5 0 4) ∧ (gI h1 5 0 4) < 32) <|
      lt (sI h1 40 0 (gI h1 5 0 4) x2) fun h2 =>
      ck (0 ≤ (gI h2 5 0 4) ∧ (gI h2 5 0 4) < 32) <|
      lt (sI h2 41 0 (gI h2 5 0 4) x3) fun h3 =>
      ck (-2147483648 ≤ (gI h3 5 0 4) + 1 ∧ (gI h3 5 0 4) + 1 < 2147483648) <|
      lt (sI h3 5 0 4 ((gI h3 5 0 4) + 1)) fun h4 =>
      ck (-2147483648 ≤ (gI h4 5 0 4) - 1 ∧ (gI h4 5 0 4) - 1 < 2147483648) <|
      some ((gI h4 5 0 4) - 1, h4)
    ) else (
      some ((-1), h)
    )
  )
noncomputable def g_X5_add (n : Nat) : Rk := Nat.rec (motive := fun _ => Rk) (fun _ _ _ => none) (fun _ rec k l h => if k = 0 then b_X5_add_0 rec (l.getD 0 0) (l.getD 1 0) (l.getD 2 0) h else none) n
noncomputable def f_X5_add (x1 x2 x3 : Int) (h : Hp) : Option (Int × Hp) := g_X5_add FU 0 [x1, x2, x3] h
set_option maxHeartbeats 4000000 in
set_option maxRecDepth 100000 in
theorem t_X5_add_0 (E : xE) (d : Nat) (rec : Rk) (r : Int × Hp) (x1 x2 x3 : Int) (h : Hp) (hL : Lay h) (hF : b_X5_add_0 rec x1 x2 x3 h = some r) : X E mX5_add (d + 1) (0, 0) (0, 0) 0 [some (xr 5 0), some (xi x1), some (xi x2), some (xi x3)] [] h (PoI r) := by
  unfold b_X5_add_0 at hF
  refine x_aload_n (i := 0) (b := 1) dX5_add_0 rfl rfl rfl ?_
  refine x_getI (v := gI h 5 0 4) (b := 4) fk_X5_25 dX5_add_1 (by decide) rfl rfl ?_
  refine x_if_lt (tgt := 16) (b := 7) dX5_add_4 (by decide) rfl (fun hc => ?_) (fun hc => ?_)
  · replace hF := br_T hc hF
    refine x_iconst (n := (-1)) (b := 17) dX5_add_16 (by decide) rfl ?_
    refine x_ireturn dX5_add_17 rfl ⟨Nat.le_refl _, Nat.le_refl _⟩ ?_
    cases hF
    exact ⟨rfl, rfl, hL⟩
  · replace hF := br_F hc hF
    refine x_aload_n (i := 0) (b := 8) dX5_add_7 rfl rfl rfl ?_
    refine x_getI (v := gI h 5 0 4) (b := 11) fk_X5_25 dX5_add_8 (by decide) rfl rfl ?_
    refine x_bipush (n := 32) (b := 13) dX5_add_11 (by decide) rfl ?_
    refine x_icmp_lt (tgt := 18) (b := 16) dX5_add_13 (by decide) rfl (fun hc => ?_) (fun hc => ?_)
    · replace hF := br_T hc hF
      refine x_aload_n (i := 0) (b := 19) dX5_add_18 rfl rfl rfl ?_
      refine x_getL (j := 0) (t := (39, 0, true)) (b := 22) fk_X5_11 dX5_add_19 rfl hL rfl rfl rfl ?_
      refine x_aload_n (i := 0) (b := 23) dX5_add_22 rfl rfl rfl ?_
      refine x_getI (v := gI h 5 0 4) (b := 26) fk_X5_25 dX5_add_23 (by decide) rfl rfl ?_
      refine x_iload_n (i := 1) (b := 27) dX5_add_26 rfl rfl rfl ?_
      obtain ⟨hs, hF⟩ := ck_e hF
      have hs1 := hs
      refine x_iast (b := 28) ak_39 dX5_add_27 hs1 rfl ?_
      obtain ⟨h1, e_h1, hF⟩ := lt_e hF
      refine x_hp (h2 := h1) e_h1 ?_
      replace hL : Lay h1 := by rw [← e_h1]; exact hL
      refine x_aload_n (i := 0) (b := 29) dX5_add_28 rfl rfl rfl ?_
      refine x_getL (j := 0) (t := (40, 0, true)) (b := 32) fk_X5_15 dX5_add_29 rfl hL rfl rfl rfl ?_
      refine x_aload_n (i := 0) (b := 33) dX5_add_32 rfl rfl rfl ?_
      refine x_getI (v := gI h1 5 0 4) (b := 36) fk_X5_25 dX5_add_33 (by decide) rfl rfl ?_
      refine x_iload_n (i := 2) (b := 37) dX5_add_36 rfl rfl rfl ?_
      obtain ⟨hs, hF⟩ := ck_e hF
      have hs1 := hs
      refine x_iast (b := 38) ak_40 dX5_add_37 hs1 rfl ?_
      obtain ⟨h2, e_h2, hF⟩ := lt_e hF
      refine x_hp (h2 := h2) e_h2 ?_
      replace hL : Lay h2 := by rw [← e_h2]; exact hL
      refine x_aload_n (i := 0) (b := 39) dX5_add_38 rfl rfl rfl ?_
      refine x_getL (j := 0) (t := (41, 0, true)) (b := 42) fk_X5_18 dX5_add_39 rfl hL rfl rfl rfl ?_
      refine x_aload_n (i := 0) (b := 43) dX5_add_42 rfl rfl rfl ?_
      refine x_getI (v := gI h2 5 0 4) (b := 46) fk_X5_25 dX5_add_43 (by decide) rfl rfl ?_
      refine x_iload_n (i := 3) (b := 47) dX5_add_46 rfl rfl rfl ?_
      obtain ⟨hs, hF⟩ := ck_e hF
      have hs1 := hs
      refine x_iast (b := 48) ak_41 dX5_add_47 hs1 rfl ?_
      obtain ⟨h3, e_h3, hF⟩ := lt_e hF
      refine x_hp (h2 := h3) e_h3 ?_
      replace hL : Lay h3 := by rw [← e_h3]; exact hL
      refine x_aload_n (i := 0) (b := 49) dX5_add_48 rfl rfl rfl ?_
      refine x_dup (b := 50) dX5_add_49 rfl rfl ?_
      refine x_getI (v := gI h3 5 0 4) (b := 53) fk_X5_25 dX5_add_50 (by decide) rfl rfl ?_
      refine x_iconst (n := 1) (b := 54) dX5_add_53 (by decide) rfl ?_
      obtain ⟨hs, hF⟩ := ck_e hF
      refine x_iadd (b := 55) dX5_add_54 hs rfl ?_
      refine x_putI (b := 58) fk_X5_25 dX5_add_55 rfl rfl 4 rfl ?_
      obtain ⟨h4, e_h4, hF⟩ := lt_e hF
      refine x_hp (h2 := h4) e_h4 ?_
      replace hL : Lay h4 := by rw [← e_h4]; exact hL
      refine x_aload_n (i := 0) (b := 59) dX5_add_58 rfl rfl rfl ?_
      refine x_getI (v := gI h4 5 0 4) (b := 62) fk_X5_25 dX5_add_59 (by decide) rfl rfl ?_
      refine x_iconst (n := 1) (b := 63) dX5_add_62 (by decide) rfl ?_
      obtain ⟨hs, hF⟩ := ck_e hF
      refine x_isub (b := 64) dX5_add_63 hs rfl ?_
      refine x_ireturn dX5_add_64 rfl ⟨Nat.le_refl _, Nat.le_refl _⟩ ?_
      cases hF
      exact ⟨rfl, rfl, hL⟩
    · replace hF := br_F hc hF
      refine x_iconst (n := (-1)) (b := 17) dX5_add_16 (by decide) rfl ?_
      refine x_ireturn dX5_add_17 rfl ⟨Nat.le_refl _, Nat.le_refl _⟩ ?_
      cases hF
      exact ⟨rfl, rfl, hL⟩
set_option maxHeartbeats 4000000 in
set_option maxRecDepth 100000 in
theorem u_X5_add (E : xE) (d : Nat) (r : Int × Hp) : ∀ n : Nat, (∀ (x1 x2 x3 : Int) (h : Hp), Lay h → g_X5_add n 0 [x1, x2, x3] h = some r → X E mX5_add (d + 1) (0, 0) (0, 0) 0 [some (xr 5 0), some (xi x1), some (xi x2), some (xi x3)] [] h (PoI r)) := by
  intro n
  induction n with
  | zero => exact fun _ _ _ _ _ hF => no_e (r := r) hF
  | succ n ih => exact fun x1 x2 x3 h hL hF => t_X5_add_0 E d (g_X5_add n) r  x1 x2 x3 h hL hF
theorem c_X5_add (d : Nat) (x1 x2 x3 : Int) (h : Hp) (r : Int × Hp) (hL : Lay h) (hF : f_X5_add x1 x2 x3 h = some r) : Sp mX5_add (d + 1) (0, 0) [xr 5 0, xi x1, xi x2, xi x3] h (PoI r) :=
  sp_of (by decide) rfl (Nat.le_of_ble_eq_true rfl) (ls := [some (xr 5 0), some (xi x1), some (xi x2), some (xi x3)]) rfl (fun E _ => (u_X5_add E d r FU) x1 x2 x3 h hL hF)
theorem dX5_clear_0 : decode cX5_clear 0 = .ok (.aload_n 0, 1) := by decide +kernel
theorem dX5_clear_1 : decode cX5_clear 1 = .ok (.iconst 0, 1) := by decide +kernel
theorem dX5_clear_2 : decode cX5_clear 2 = .ok (.putfield 25, 3) := by decide +kernel
theorem dX5_clear_5 : decode cX5_clear 5 = .ok (.aload_n 0, 1) := by decide +kernel
theorem dX5_clear_6 : decode cX5_clear 6 = .ok (.iconst (-1), 1) := by decide +kernel
theorem dX5_clear_7 : decode cX5_clear 7 = .ok (.putfield 29, 3) := by decide +kernel
theorem dX5_clear_10 : decode cX5_clear 10 = .ok (.return_, 1) := by decide +kernel
noncomputable def b_X5_clear_0 (rec : Rk) (h : Hp) : Option (Int × Hp) :=
  lt (sI h 5 0 4 0) fun h1 =>
  lt (sI h1 5 0 5 (-1)) fun h2 =>
  some (0, h2)
noncomputable def g_X5_clear (n : Nat) : Rk := Nat.rec (motive := fun _ => Rk) (fun _ _ _ => none) (fun _ rec k l h => if k = 0 then b_X5_clear_0 rec  h else none) n
noncomputable def f_X5_clear (h : Hp) : Option (Int × Hp) := g_X5_clear FU 0 [] h
set_option maxHeartbeats 4000000 in
set_option maxRecDepth 100000 in
theorem t_X5_clear_0 (E : xE) (d : Nat) (rec : Rk) (r : Int × Hp) (h : Hp) (hL : Lay h) (hF : b_X5_clear_0 rec  h = some r) : X E mX5_clear (d + 1) (0, 0) (0, 0) 0 [some (xr 5 0)] [] h (PoV r) := by
  unfold b_X5_clear_0 at hF
  refine x_aload_n (i := 0) (b := 1) dX5_clear_0 rfl rfl rfl ?_
  refine x_iconst (n := 0) (b := 2) dX5_clear_1 (by decide) rfl ?_
  refine x_putI (b := 5) fk_X5_25 dX5_clear_2 rfl rfl 4 rfl ?_
  obtain ⟨h1, e_h1, hF⟩ := lt_e hF
  refine x_hp (h2 := h1) e_h1 ?_
  replace hL : Lay h1 := by rw [← e_h1]; exact hL
  refine x_aload_n (i := 0) (b := 6) dX5_clear_5 rfl rfl rfl ?_
  refine x_iconst (n := (-1)) (b := 7) dX5_clear_6 (by decide) rfl ?_
  refine x_putI (b := 10) fk_X5_29 dX5_clear_7 rfl rfl 5 rfl ?_
  obtain ⟨h2, e_h2, hF⟩ := lt_e hF
  refine x_hp (h2 := h2) e_h2 ?_
  replace hL : Lay h2 := by rw [← e_h2]; exact hL
  refine x_return dX5_clear_10 rfl ⟨Nat.le_refl _, Nat.le_refl _⟩ ?_
  cases hF
  exact ⟨rfl, rfl, hL⟩
set_option maxHeartbeats 4000000 in
set_option maxRecDepth 100000 in
theorem u_X5_clear (E : xE) (d : Nat) (r : Int × Hp) : ∀ n : Nat, (∀ (h : Hp), Lay h → g_X5_clear n 0 [] h = some r → X E mX5_clear (d + 1) (0, 0) (0, 0) 0 [some (xr 5 0)] [] h (PoV r)) := by
  intro n
  induction n with
  | zero => exact fun _ _ hF => no_e (r := r) hF
  | succ n ih => exact fun h hL hF => t_X5_clear_0 E d (g_X5_clear n) r   h hL hF
theorem c_X5_clear (d : Nat) (h : Hp) (r : Int × Hp) (hL : Lay h) (hF : f_X5_clear  h = some r) : Sp mX5_clear (d + 1) (0, 0) [xr 5 0] h (PoV r) :=
  sp_of (by decide) rfl (Nat.le_of_ble_eq_true rfl) (ls := [some (xr 5 0)]) rfl (fun E _ => (u_X5_clear E d r FU)  h hL hF)
theorem dX5_inForce_0 : decode cX5_inForce 0 = .ok (.aload_n 0, 1) := by decide +kernel
theorem dX5_inForce_1 : decode cX5_inForce 1 = .ok (.getfield 29, 3) := by decide +kernel
theorem dX5_inForce_4 : decode cX5_inForce 4 = .ok (.iconst (-1), 1) := by decide +kernel
theorem dX5_inForce_5 : decode cX5_inForce 5 = .ok (.if_icmp .ne 10, 3) := by decide +kernel
theorem dX5_inForce_8 : decode cX5_inForce 8 = .ok (.aload_n 0, 1) := by decide +kernel
theorem dX5_inForce_9 : decode cX5_inForce 9 = .ok (.getfield 25, 3) := by decide +kernel
theorem dX5_inForce_12 : decode cX5_inForce 12 = .ok (.goto 7, 3) := by decide +kernel
theorem dX5_inForce_15 : decode cX5_inForce 15 = .ok (.aload_n 0, 1) := by decide +kernel
theorem dX5_inForce_16 : decode cX5_inForce 16 = .ok (.getfield 29, 3) := by decide +kernel
theorem dX5_inForce_19 : decode cX5_inForce 19 = .ok (.ireturn, 1) := by decide +kernel
noncomputable def b_X5_inForce_0 (rec : Rk) (h : Hp) : Option (Int × Hp) :=
  if (gI h 5 0 5) = (-1) then (
    some (gI h 5 0 4, h)
  ) else (
    some (gI h 5 0 5, h)
  )
noncomputable def g_X5_inForce (n : Nat) : Rk := Nat.rec (motive := fun _ => Rk) (fun _ _ _ => none) (fun _ rec k l h => if k = 0 then b_X5_inForce_0 rec  h else none) n
noncomputable def f_X5_inForce (h : Hp) : Option (Int × Hp) := g_X5_inForce FU 0 [] h
set_option maxHeartbeats 4000000 in
set_option maxRecDepth 100000 in
theorem t_X5_inForce_0 (E : xE) (d : Nat) (rec : Rk) (r : Int × Hp) (h : Hp) (hL : Lay h) (hF : b_X5_inForce_0 rec  h = some r) : X E mX5_inForce (d + 1) (0, 0) (0, 0) 0 [some (xr 5 0)] [] h (PoI r) := by
  unfold b_X5_inForce_0 at hF
  refine x_aload_n (i := 0) (b := 1) dX5_inForce_0 rfl rfl rfl ?_
  refine x_getI (v := gI h 5 0 5) (b := 4) fk_X5_29 dX5_inForce_1 (by decide) rfl rfl ?_
  refine x_iconst (n := (-1)) (b := 5) dX5_inForce_4 (by decide) rfl ?_
  refine x_icmp_ne (tgt := 15) (b := 8) dX5_inForce_5 (by decide) rfl (fun hc => ?_) (fun hc => ?_)
  · replace hF := br_F hc hF
    refine x_aload_n (i := 0) (b := 16) dX5_inForce_15 rfl rfl rfl ?_
    refine x_getI (v := gI h 5 0 5) (b := 19) fk_X5_29 dX5_inForce_16 (by decide) rfl rfl ?_
    refine x_ireturn dX5_inForce_19 rfl ⟨Nat.le_refl _, Nat.le_refl _⟩ ?_
    cases hF
    exact ⟨rfl, rfl, hL⟩
  · replace hF := br_T hc hF
    refine x_aload_n (i := 0) (b := 9) dX5_inForce_8 rfl rfl rfl ?_
    refine x_getI (v := gI h 5 0 4) (b := 12) fk_X5_25 dX5_inForce_9 (by decide) rfl rfl ?_
    refine x_goto (tgt := 19) dX5_inForce_12 (by decide) ?_
    refine x_ireturn dX5_inForce_19 rfl ⟨Nat.le_refl _, Nat.le_refl _⟩ ?_
    cases hF
    exact ⟨rfl, rfl, hL⟩
set_option maxHeartbeats 4000000 in
set_option maxRecDepth 100000 in
theorem u_X5_inForce (E : xE) (d : Nat) (r : Int × Hp) : ∀ n : Nat, (∀ (h : Hp), Lay h → g_X5_inForce n 0 [] h = some r → X E mX5_inForce (d + 1) (0, 0) (0, 0) 0 [some (xr 5 0)] [] h (PoI r)) := by
  intro n
  induction n with
  | zero => exact fun _ _ hF => no_e (r := r) hF
  | succ n ih => exact fun h hL hF => t_X5_inForce_0 E d (g_X5_inForce n) r   h hL hF
theorem c_X5_inForce (d : Nat) (h : Hp) (r : Int × Hp) (hL : Lay h) (hF : f_X5_inForce  h = some r) : Sp mX5_inForce (d + 1) (0, 0) [xr 5 0] h (PoI r) :=
  sp_of (by decide) rfl (Nat.le_of_ble_eq_true rfl) (ls := [some (xr 5 0)]) rfl (fun E _ => (u_X5_inForce E d r FU)  h hL hF)
theorem dX5_sift_0 : decode cX5_sift 0 = .ok (.iconst 0, 1) := by decide +kernel
theorem dX5_sift_1 : decode cX5_sift 1 = .ok (.istore_n 1, 1) := by decide +kernel
theorem dX5_sift_2 : decode cX5_sift 2 = .ok (.iload_n 1, 1) := by decide +kernel
theorem dX5_sift_3 : decode cX5_sift 3 = .ok (.bipush 32, 2) := by decide +kernel
theorem dX5_sift_5 : decode cX5_sift 5 = .ok (.if_icmp .ge 16, 3) := by decide +kernel
theorem dX5_sift_8 : decode cX5_sift 8 = .ok (.aload_n 0, 1) := by decide +kernel
theorem dX5_sift_9 : decode cX5_sift 9 = .ok (.getfield 21, 3) := by decide +kernel
theorem dX5_sift_12 : decode cX5_sift 12 = .ok (.iload_n 1, 1) := by decide +kernel
theorem dX5_sift_13 : decode cX5_sift 13 = .ok (.iconst 0, 1) := by decide +kernel
theorem dX5_sift_14 : decode cX5_sift 14 = .ok (.bastore, 1) := by decide +kernel
theorem dX5_sift_15 : decode cX5_sift 15 = .ok (.iinc 1 1, 3) := by decide +kernel
theorem dX5_sift_18 : decode cX5_sift 18 = .ok (.goto (-16), 3) := by decide +kernel
theorem dX5_sift_21 : decode cX5_sift 21 = .ok (.bipush 32, 2) := by decide +kernel
theorem dX5_sift_23 : decode cX5_sift 23 = .ok (.aload_n 0, 1) := by decide +kernel
theorem dX5_sift_24 : decode cX5_sift 24 = .ok (.invokevirtual 32, 3) := by decide +kernel
theorem dX5_sift_27 : decode cX5_sift 27 = .ok (.invokestatic 36, 3) := by decide +kernel
theorem dX5_sift_30 : decode cX5_sift 30 = .ok (.iconst 1, 1) := by decide +kernel
theorem dX5_sift_31 : decode cX5_sift 31 = .ok (.isub, 1) := by decide +kernel
theorem dX5_sift_32 : decode cX5_sift 32 = .ok (.istore_n 1, 1) := by decide +kernel
theorem dX5_sift_33 : decode cX5_sift 33 = .ok (.iload_n 1, 1) := by decide +kernel
theorem dX5_sift_34 : decode cX5_sift 34 = .ok (.ifCond .lt 52, 3) := by decide +kernel
theorem dX5_sift_37 : decode cX5_sift 37 = .ok (.aload_n 0, 1) := by decide +kernel
theorem dX5_sift_38 : decode cX5_sift 38 = .ok (.getfield 18, 3) := by decide +kernel
theorem dX5_sift_41 : decode cX5_sift 41 = .ok (.iload_n 1, 1) := by decide +kernel
theorem dX5_sift_42 : decode cX5_sift 42 = .ok (.iaload, 1) := by decide +kernel
theorem dX5_sift_43 : decode cX5_sift 43 = .ok (.istore_n 2, 1) := by decide +kernel
theorem dX5_sift_44 : decode cX5_sift 44 = .ok (.aload_n 0, 1) := by decide +kernel
theorem dX5_sift_45 : decode cX5_sift 45 = .ok (.getfield 11, 3) := by decide +kernel
theorem dX5_sift_48 : decode cX5_sift 48 = .ok (.iload_n 1, 1) := by decide +kernel
theorem dX5_sift_49 : decode cX5_sift 49 = .ok (.iaload, 1) := by decide +kernel
theorem dX5_sift_50 : decode cX5_sift 50 = .ok (.iconst 2, 1) := by decide +kernel
theorem dX5_sift_51 : decode cX5_sift 51 = .ok (.if_icmp .ne 29, 3) := by decide +kernel
theorem dX5_sift_54 : decode cX5_sift 54 = .ok (.aload_n 0, 1) := by decide +kernel
theorem dX5_sift_55 : decode cX5_sift 55 = .ok (.getfield 21, 3) := by decide +kernel
theorem dX5_sift_58 : decode cX5_sift 58 = .ok (.iload_n 1, 1) := by decide +kernel
theorem dX5_sift_59 : decode cX5_sift 59 = .ok (.baload, 1) := by decide +kernel
theorem dX5_sift_60 : decode cX5_sift 60 = .ok (.ifCond .ne 20, 3) := by decide +kernel
theorem dX5_sift_63 : decode cX5_sift 63 = .ok (.iload_n 2, 1) := by decide +kernel
theorem dX5_sift_64 : decode cX5_sift 64 = .ok (.ifCond .lt 16, 3) := by decide +kernel
theorem dX5_sift_67 : decode cX5_sift 67 = .ok (.iload_n 2, 1) := by decide +kernel
theorem dX5_sift_68 : decode cX5_sift 68 = .ok (.bipush 32, 2) := by decide +kernel
theorem dX5_sift_70 : decode cX5_sift 70 = .ok (.if_icmp .ge 10, 3) := by decide +kernel
theorem dX5_sift_73 : decode cX5_sift 73 = .ok (.aload_n 0, 1) := by decide +kernel
theorem dX5_sift_74 : decode cX5_sift 74 = .ok (.getfield 21, 3) := by decide +kernel
theorem dX5_sift_77 : decode cX5_sift 77 = .ok (.iload_n 2, 1) := by decide +kernel
theorem dX5_sift_78 : decode cX5_sift 78 = .ok (.iconst 1, 1) := by decide +kernel
theorem dX5_sift_79 : decode cX5_sift 79 = .ok (.bastore, 1) := by decide +kernel
theorem dX5_sift_80 : decode cX5_sift 80 = .ok (.iinc 1 (-1), 3) := by decide +kernel
theorem dX5_sift_83 : decode cX5_sift 83 = .ok (.goto (-50), 3) := by decide +kernel
theorem dX5_sift_86 : decode cX5_sift 86 = .ok (.return_, 1) := by decide +kernel
noncomputable def b_X5_sift_0 (rec : Rk) (h : Hp) : Option (Int × Hp) :=
  rec 1 [0] h
noncomputable def b_X5_sift_1 (rec : Rk) (x1 : Int) (h : Hp) : Option (Int × Hp) :=
  if 32 ≤ x1 then (
    bd (f_X5_inForce h) fun v1 h2 =>
    ck (-2147483648 ≤ (min 32 v1) - 1 ∧ (min 32 v1) - 1 < 2147483648) <|
    lt ((min 32 v1) - 1) fun z3 =>
    rec 2 [z3] h2
  ) else (
    ck (0 ≤ x1 ∧ x1 < 32) <|
    lt (sI h 42 0 x1 0) fun h4 =>
    ck (-2147483648 ≤ x1 + 1 ∧ x1 + 1 < 2147483648) <|
    rec 1 [x1 + 1] h4
  )
noncomputable def b_X5_sift_2 (rec : Rk) (x1 : Int) (h : Hp) : Option (Int × Hp) :=
  if x1 < 0 then (
    some (0, h)
  ) else (
    ck (0 ≤ x1 ∧ x1 < 32) <|
    lt (gI h 41 0 x1) fun z1 =>
    ck (0 ≤ x1 ∧ x1 < 32) <|
    if (gI h 39 0 x1) = 2 then (
      ck (0 ≤ x1 ∧ x1 < 32) <|
      if (gI h 42 0 x1) = 0 then (
        if z1 < 0 then (
          rec 3 [x1] h
        ) else (
          if 32 ≤ z1 then (
            rec 3 [x1] h
          ) else (
            ck (0 ≤ z1 ∧ z1 < 32) <|
            lt (sI h 42 0 z1 1) fun h2 =>
            rec 3 [x1] h2
          )
        )
      ) else (
        rec 3 [x1] h
      )
    ) else (
      rec 3 [x1] h
    )
  )
noncomputable def b_X5_sift_3 (rec : Rk) (x1 : Int) (h : Hp) : Option (Int × Hp) :=
  ck (-2147483648 ≤ x1 + (-1) ∧ x1 + (-1) < 2147483648) <|
  rec 2 [x1 + (-1)] h
noncomputable def g_X5_sift (n : Nat) : Rk := Nat.rec (motive := fun _ => Rk) (fun _ _ _ => none) (fun _ rec k l h => if k = 0 then b_X5_sift_0 rec  h else if k = 1 then b_X5_sift_1 rec (l.getD 0 0) h else if k = 2 then b_X5_sift_2 rec (l.getD 0 0) h else if k = 3 then b_X5_sift_3 rec (l.getD 0 0) h else none) n
noncomputable def f_X5_sift (h : Hp) : Option (Int × Hp) := g_X5_sift FU 0 [] h
set_option maxHeartbeats 4000000 in
set_option maxRecDepth 100000 in
theorem t_X5_sift_0 (E : xE) (d : Nat) (rec : Rk) (r : Int × Hp) (hr_2 : ∀ (x1 : Int) (h : Hp), Lay h → rec 1 [x1] h = some r → X E mX5_sift (d + 2) (0, 0) (0, 0) 2 [some (xr 5 0), some (xi x1), none] [] h (PoV r)) (h : Hp) (hL : Lay h) (hF : b_X5_sift_0 rec  h = some r) : X E mX5_sift (d + 2) (0, 0) (0, 0) 0 [some (xr 5 0), none, none] [] h (PoV r) := by
  unfold b_X5_sift_0 at hF
  refine x_iconst (n := 0) (b := 1) dX5_sift_0 (by decide) rfl ?_
  refine x_istore_n (i := 1) (b := 2) (ls2 := [some (xr 5 0), some (xi 0), none]) dX5_sift_1 rfl (Nat.le_of_ble_eq_true rfl) rfl rfl ?_
  exact x_dp (ls2 := [some (xr 5 0), some (xi 0), none]) ⟨rfl, rfl, trivial⟩ (hr_2 0 h hL hF)
set_option maxHeartbeats 4000000 in
set_option maxRecDepth 100000 in
theorem t_X5_sift_1 (E : xE) (d : Nat) (rec : Rk) (r : Int × Hp) (hr_2 : ∀ (x1 : Int) (h : Hp), Lay h → rec 1 [x1] h = some r → X E mX5_sift (d + 2) (0, 0) (0, 0) 2 [some (xr 5 0), some (xi x1), none] [] h (PoV r)) (hr_33 : ∀ (x1 : Int) (h : Hp), Lay h → rec 2 [x1] h = some r → X E mX5_sift (d + 2) (0, 0) (0, 0) 33 [some (xr 5 0), some (xi x1), none] [] h (PoV r)) (x1 : Int) (h : Hp) (hL : Lay h) (hF : b_X5_sift_1 rec x1 h = some r) : X E mX5_sift (d + 2) (0, 0) (0, 0) 2 [some (xr 5 0), some (xi x1), none] [] h (PoV r) := by
  unfold b_X5_sift_1 at hF
  refine x_iload_n (i := 1) (b := 3) dX5_sift_2 rfl rfl rfl ?_
  refine x_bipush (n := 32) (b := 5) dX5_sift_3 (by decide) rfl ?_
  refine x_icmp_ge (tgt := 21) (b := 8) dX5_sift_5 (by decide) rfl (fun hc => ?_) (fun hc => ?_)
  · replace hF := br_T hc hF
    refine x_bipush (n := 32) (b := 23) dX5_sift_21 (by decide) rfl ?_
    refine x_aload_n (i := 0) (b := 24) dX5_sift_23 rfl rfl rfl ?_
    obtain ⟨v1, h2, hq, hF⟩ := bd_e hF
    refine x_callV (as := []) (rest := [xi 32]) (b := 27) (c_X5_inForce d h _ hL hq) dX5_sift_24 cw_X5_32 ⟨_, _, rfl, Nat.le_of_ble_eq_true rfl⟩ rfl rfl (Nat.le_of_ble_eq_true rfl) ⟨Nat.le_refl _, Nat.le_refl _⟩ rfl (fun rv hh hp _ => ?_)
    obtain ⟨rfl, rfl, hL⟩ := hp
    refine x_min (b := 30) dX5_sift_27 mw_X5_36 (Nat.le_of_ble_eq_true rfl) ⟨Nat.le_refl _, Nat.le_refl _⟩ rfl ?_
    refine x_iconst (n := 1) (b := 31) dX5_sift_30 (by decide) rfl ?_
    obtain ⟨hs, hF⟩ := ck_e hF
    refine x_isub (b := 32) dX5_sift_31 hs rfl ?_
    obtain ⟨z3, e_z3, hF⟩ := lt_e hF
    refine x_eq (y := z3) e_z3 ?_
    refine x_istore_n (i := 1) (b := 33) (ls2 := [some (xr 5 0), some (xi z3), none]) dX5_sift_32 rfl (Nat.le_of_ble_eq_true rfl) rfl rfl ?_
    exact x_dp (ls2 := [some (xr 5 0), some (xi z3), none]) ⟨rfl, rfl, trivial⟩ (hr_33 z3 h2 hL hF)
  · replace hF := br_F hc hF
    refine x_aload_n (i := 0) (b := 9) dX5_sift_8 rfl rfl rfl ?_
    refine x_getL (j := 0) (t := (42, 0, true)) (b := 12) fk_X5_21 dX5_sift_9 rfl hL rfl rfl rfl ?_
    refine x_iload_n (i := 1) (b := 13) dX5_sift_12 rfl rfl rfl ?_
    refine x_iconst (n := 0) (b := 14) dX5_sift_13 (by decide) rfl ?_
    obtain ⟨hs, hF⟩ := ck_e hF
    have hs1 := hs
    refine x_zast (b := 15) ak_42 dX5_sift_14 hs1 (by decide) rfl ?_
    obtain ⟨h4, e_h4, hF⟩ := lt_e hF
    refine x_hp (h2 := h4) e_h4 ?_
    replace hL : Lay h4 := by rw [← e_h4]; exact hL
    obtain ⟨hs, hF⟩ := ck_e hF
    refine x_iinc (i := 1) (b := 18) (ls2 := [some (xr 5 0), some (xi (x1 + 1)), none]) dX5_sift_15 rfl (Nat.le_of_ble_eq_true rfl) hs rfl rfl ?_
    refine x_goto (tgt := 2) dX5_sift_18 (by decide) ?_
    exact x_dp (ls2 := [some (xr 5 0), some (xi (x1 + 1)), none]) ⟨rfl, rfl, trivial⟩ (hr_2 (x1 + 1) h4 hL hF)
set_option maxHeartbeats 4000000 in
set_option maxRecDepth 100000 in
theorem t_X5_sift_2 (E : xE) (d : Nat) (rec : Rk) (r : Int × Hp) (hr_80 : ∀ (x1 : Int) (h : Hp), Lay h → rec 3 [x1] h = some r → X E mX5_sift (d + 2) (0, 0) (0, 0) 80 [some (xr 5 0), some (xi x1), none] [] h (PoV r)) (x1 : Int) (h : Hp) (hL : Lay h) (hF : b_X5_sift_2 rec x1 h = some r) : X E mX5_sift (d + 2) (0, 0) (0, 0) 33 [some (xr 5 0), some (xi x1), none] [] h (PoV r) := by
  unfold b_X5_sift_2 at hF
  refine x_iload_n (i := 1) (b := 34) dX5_sift_33 rfl rfl rfl ?_
  refine x_if_lt (tgt := 86) (b := 37) dX5_sift_34 (by decide) rfl (fun hc => ?_) (fun hc => ?_)
  · replace hF := br_T hc hF
    refine x_return dX5_sift_86 rfl ⟨Nat.le_refl _, Nat.le_refl _⟩ ?_
    cases hF
    exact ⟨rfl, rfl, hL⟩
  · replace hF := br_F hc hF
    refine x_aload_n (i := 0) (b := 38) dX5_sift_37 rfl rfl rfl ?_
    refine x_getL (j := 0) (t := (41, 0, true)) (b := 41) fk_X5_18 dX5_sift_38 rfl hL rfl rfl rfl ?_
    refine x_iload_n (i := 1) (b := 42) dX5_sift_41 rfl rfl rfl ?_
    obtain ⟨hs, hF⟩ := ck_e hF
    refine x_iald (v := gI h 41 0 x1) (b := 43) ak_41 dX5_sift_42 hs rfl rfl ?_
    obtain ⟨z1, e_z1, hF⟩ := lt_e hF
    refine x_eq (y := z1) e_z1 ?_
    refine x_istore_n (i := 2) (b := 44) (ls2 := [some (xr 5 0), some (xi x1), some (xi z1)]) dX5_sift_43 rfl (Nat.le_of_ble_eq_true rfl) rfl rfl ?_
    refine x_aload_n (i := 0) (b := 45) dX5_sift_44 rfl rfl rfl ?_
    refine x_getL (j := 0) (t := (39, 0, true)) (b := 48) fk_X5_11 dX5_sift_45 rfl hL rfl rfl rfl ?_
    refine x_iload_n (i := 1) (b := 49) dX5_sift_48 rfl rfl rfl ?_
    obtain ⟨hs, hF⟩ := ck_e hF
    refine x_iald (v := gI h 39 0 x1) (b := 50) ak_39 dX5_sift_49 hs rfl rfl ?_
    refine x_iconst (n := 2) (b := 51) dX5_sift_50 (by decide) rfl ?_
    refine x_icmp_ne (tgt := 80) (b := 54) dX5_sift_51 (by decide) rfl (fun hc => ?_) (fun hc => ?_)
    · replace hF := br_F hc hF
      exact x_dp (ls2 := [some (xr 5 0), some (xi x1), none]) ⟨rfl, rfl, trivial⟩ (hr_80 x1 h hL hF)
    · replace hF := br_T hc hF
      refine x_aload_n (i := 0) (b := 55) dX5_sift_54 rfl rfl rfl ?_
      refine x_getL (j := 0) (t := (42, 0, true)) (b := 58) fk_X5_21 dX5_sift_55 rfl hL rfl rfl rfl ?_
      refine x_iload_n (i := 1) (b := 59) dX5_sift_58 rfl rfl rfl ?_
      obtain ⟨hs, hF⟩ := ck_e hF
      refine x_zald (v := gI h 42 0 x1) (b := 60) ak_42 dX5_sift_59 hs rfl rfl ?_
      refine x_if_ne (tgt := 80) (b := 63) dX5_sift_60 (by decide) rfl (fun hc => ?_) (fun hc => ?_)
      · replace hF := br_F hc hF
        exact x_dp (ls2 := [some (xr 5 0), some (xi x1), none]) ⟨rfl, rfl, trivial⟩ (hr_80 x1 h hL hF)
      · replace hF := br_T hc hF
        refine x_iload_n (i := 2) (b := 64) dX5_sift_63 rfl rfl rfl ?_
        refine x_if_lt (tgt := 80) (b := 67) dX5_sift_64 (by decide) rfl (fun hc => ?_) (fun hc => ?_)
        · replace hF := br_T hc hF
          exact x_dp (ls2 := [some (xr 5 0), some (xi x1), none]) ⟨rfl, rfl, trivial⟩ (hr_80 x1 h hL hF)
        · replace hF := br_F hc hF
          refine x_iload_n (i := 2) (b := 68) dX5_sift_67 rfl rfl rfl ?_
          refine x_bipush (n := 32) (b := 70) dX5_sift_68 (by decide) rfl ?_
          refine x_icmp_ge (tgt := 80) (b := 73) dX5_sift_70 (by decide) rfl (fun hc => ?_) (fun hc => ?_)
          · replace hF := br_T hc hF
            exact x_dp (ls2 := [some (xr 5 0), some (xi x1), none]) ⟨rfl, rfl, trivial⟩ (hr_80 x1 h hL hF)
          · replace hF := br_F hc hF
            refine x_aload_n (i := 0) (b := 74) dX5_sift_73 rfl rfl rfl ?_
            refine x_getL (j := 0) (t := (42, 0, true)) (b := 77) fk_X5_21 dX5_sift_74 rfl hL rfl rfl rfl ?_
            refine x_iload_n (i := 2) (b := 78) dX5_sift_77 rfl rfl rfl ?_
            refine x_iconst (n := 1) (b := 79) dX5_sift_78 (by decide) rfl ?_
            obtain ⟨hs, hF⟩ := ck_e hF
            have hs1 := hs
            refine x_zast (b := 80) ak_42 dX5_sift_79 hs1 (by decide) rfl ?_
            obtain ⟨h2, e_h2, hF⟩ := lt_e hF
            refine x_hp (h2 := h2) e_h2 ?_
            replace hL : Lay h2 := by rw [← e_h2]; exact hL
            exact x_dp (ls2 := [some (xr 5 0), some (xi x1), none]) ⟨rfl, rfl, trivial⟩ (hr_80 x1 h2 hL hF)
set_option maxHeartbeats 4000000 in
set_option maxRecDepth 100000 in
theorem t_X5_sift_3 (E : xE) (d : Nat) (rec : Rk) (r : Int × Hp) (hr_33 : ∀ (x1 : Int) (h : Hp), Lay h → rec 2 [x1] h = some r → X E mX5_sift (d + 2) (0, 0) (0, 0) 33 [some (xr 5 0), some (xi x1), none] [] h (PoV r)) (x1 : Int) (h : Hp) (hL : Lay h) (hF : b_X5_sift_3 rec x1 h = some r) : X E mX5_sift (d + 2) (0, 0) (0, 0) 80 [some (xr 5 0), some (xi x1), none] [] h (PoV r) := by
  unfold b_X5_sift_3 at hF
  obtain ⟨hs, hF⟩ := ck_e hF
  refine x_iinc (i := 1) (b := 83) (ls2 := [some (xr 5 0), some (xi (x1 + (-1))), none]) dX5_sift_80 rfl (Nat.le_of_ble_eq_true rfl) hs rfl rfl ?_
  refine x_goto (tgt := 33) dX5_sift_83 (by decide) ?_
  exact x_dp (ls2 := [some (xr 5 0), some (xi (x1 + (-1))), none]) ⟨rfl, rfl, trivial⟩ (hr_33 (x1 + (-1)) h hL hF)
set_option maxHeartbeats 4000000 in
set_option maxRecDepth 100000 in
theorem u_X5_sift (E : xE) (d : Nat) (r : Int × Hp) : ∀ n : Nat, (∀ (h : Hp), Lay h → g_X5_sift n 0 [] h = some r → X E mX5_sift (d + 2) (0, 0) (0, 0) 0 [some (xr 5 0), none, none] [] h (PoV r)) ∧ (∀ (x1 : Int) (h : Hp), Lay h → g_X5_sift n 1 [x1] h = some r → X E mX5_sift (d + 2) (0, 0) (0, 0) 2 [some (xr 5 0), some (xi x1), none] [] h (PoV r)) ∧ (∀ (x1 : Int) (h : Hp), Lay h → g_X5_sift n 2 [x1] h = some r → X E mX5_sift (d + 2) (0, 0) (0, 0) 33 [some (xr 5 0), some (xi x1), none] [] h (PoV r)) ∧ (∀ (x1 : Int) (h : Hp), Lay h → g_X5_sift n 3 [x1] h = some r → X E mX5_sift (d + 2) (0, 0) (0, 0) 80 [some (xr 5 0), some (xi x1), none] [] h (PoV r)) := by
  intro n
  induction n with
  | zero => exact ⟨fun _ _ hF => no_e (r := r) hF, fun _ _ _ hF => no_e (r := r) hF, fun _ _ _ hF => no_e (r := r) hF, fun _ _ _ hF => no_e (r := r) hF⟩
  | succ n ih => exact ⟨fun h hL hF => t_X5_sift_0 E d (g_X5_sift n) r ih.2.1  h hL hF, fun x1 h hL hF => t_X5_sift_1 E d (g_X5_sift n) r ih.2.1 ih.2.2.1 x1 h hL hF, fun x1 h hL hF => t_X5_sift_2 E d (g_X5_sift n) r ih.2.2.2 x1 h hL hF, fun x1 h hL hF => t_X5_sift_3 E d (g_X5_sift n) r ih.2.2.1 x1 h hL hF⟩
theorem c_X5_sift (d : Nat) (h : Hp) (r : Int × Hp) (hL : Lay h) (hF : f_X5_sift  h = some r) : Sp mX5_sift (d + 2) (0, 0) [xr 5 0] h (PoV r) :=
  sp_of (by decide) rfl (Nat.le_of_ble_eq_true rfl) (ls := [some (xr 5 0), none, none]) rfl (fun E _ => (u_X5_sift E d r FU).1  h hL hF)
theorem dX6_isWorse_0 : decode cX6_isWorse 0 = .ok (.aload_n 0, 1) := by decide +kernel
theorem dX6_isWorse_1 : decode cX6_isWorse 1 = .ok (.getfield 28, 3) := by decide +kernel
theorem dX6_isWorse_4 : decode cX6_isWorse 4 = .ok (.iconst (-1), 1) := by decide +kernel
theorem dX6_isWorse_5 : decode cX6_isWorse 5 = .ok (.if_icmp .eq 31, 3) := by decide +kernel
theorem dX6_isWorse_8 : decode cX6_isWorse 8 = .ok (.iload_n 1, 1) := by decide +kernel
theorem dX6_isWorse_9 : decode cX6_isWorse 9 = .ok (.aload_n 0, 1) := by decide +kernel
theorem dX6_isWorse_10 : decode cX6_isWorse 10 = .ok (.getfield 24, 3) := by decide +kernel
theorem dX6_isWorse_13 : decode cX6_isWorse 13 = .ok (.if_icmp .gt 19, 3) := by decide +kernel
theorem dX6_isWorse_16 : decode cX6_isWorse 16 = .ok (.iload_n 1, 1) := by decide +kernel
theorem dX6_isWorse_17 : decode cX6_isWorse 17 = .ok (.aload_n 0, 1) := by decide +kernel
theorem dX6_isWorse_18 : decode cX6_isWorse 18 = .ok (.getfield 24, 3) := by decide +kernel
theorem dX6_isWorse_21 : decode cX6_isWorse 21 = .ok (.if_icmp .ne 15, 3) := by decide +kernel
theorem dX6_isWorse_24 : decode cX6_isWorse 24 = .ok (.iload_n 2, 1) := by decide +kernel
theorem dX6_isWorse_25 : decode cX6_isWorse 25 = .ok (.aload_n 0, 1) := by decide +kernel
theorem dX6_isWorse_26 : decode cX6_isWorse 26 = .ok (.getfield 28, 3) := by decide +kernel
theorem dX6_isWorse_29 : decode cX6_isWorse 29 = .ok (.if_icmp .lt 7, 3) := by decide +kernel
theorem dX6_isWorse_32 : decode cX6_isWorse 32 = .ok (.iconst 1, 1) := by decide +kernel
theorem dX6_isWorse_33 : decode cX6_isWorse 33 = .ok (.goto 4, 3) := by decide +kernel
theorem dX6_isWorse_36 : decode cX6_isWorse 36 = .ok (.iconst 0, 1) := by decide +kernel
theorem dX6_isWorse_37 : decode cX6_isWorse 37 = .ok (.ireturn, 1) := by decide +kernel
noncomputable def b_X6_isWorse_0 (rec : Rk) (x1 x2 : Int) (h : Hp) : Option (Int × Hp) :=
  if (gI h 6 0 5) = (-1) then (
    some (0, h)
  ) else (
    if (gI h 6 0 4) < x1 then (
      rec 1 [] h
    ) else (
      if x1 = (gI h 6 0 4) then (
        if x2 < (gI h 6 0 5) then (
          some (0, h)
        ) else (
          rec 1 [] h
        )
      ) else (
        some (0, h)
      )
    )
  )
noncomputable def b_X6_isWorse_1 (rec : Rk) (h : Hp) : Option (Int × Hp) :=
  some (1, h)
noncomputable def g_X6_isWorse (n : Nat) : Rk := Nat.rec (motive := fun _ => Rk) (fun _ _ _ => none) (fun _ rec k l h => if k = 0 then b_X6_isWorse_0 rec (l.getD 0 0) (l.getD 1 0) h else if k = 1 then b_X6_isWorse_1 rec  h else none) n
noncomputable def f_X6_isWorse (x1 x2 : Int) (h : Hp) : Option (Int × Hp) := g_X6_isWorse FU 0 [x1, x2] h
set_option maxHeartbeats 4000000 in
set_option maxRecDepth 100000 in
theorem t_X6_isWorse_0 (E : xE) (d : Nat) (rec : Rk) (r : Int × Hp) (hr_32 : ∀ (h : Hp), Lay h → rec 1 [] h = some r → X E mX6_isWorse (d + 1) (0, 0) (0, 0) 32 [none, none, none] [] h (PoI r)) (x1 x2 : Int) (h : Hp) (hL : Lay h) (hF : b_X6_isWorse_0 rec x1 x2 h = some r) : X E mX6_isWorse (d + 1) (0, 0) (0, 0) 0 [some (xr 6 0), some (xi x1), some (xi x2)] [] h (PoI r) := by
  unfold b_X6_isWorse_0 at hF
  refine x_aload_n (i := 0) (b := 1) dX6_isWorse_0 rfl rfl rfl ?_
  refine x_getI (v := gI h 6 0 5) (b := 4) fk_X6_28 dX6_isWorse_1 (by decide) rfl rfl ?_
  refine x_iconst (n := (-1)) (b := 5) dX6_isWorse_4 (by decide) rfl ?_
  refine x_icmp_eq (tgt := 36) (b := 8) dX6_isWorse_5 (by decide) rfl (fun hc => ?_) (fun hc => ?_)
  · replace hF := br_T hc hF
    refine x_iconst (n := 0) (b := 37) dX6_isWorse_36 (by decide) rfl ?_
    refine x_zreturn dX6_isWorse_37 rfl ⟨Nat.le_refl _, Nat.le_refl _⟩ (by decide) ?_
    cases hF
    exact ⟨rfl, rfl, hL⟩
  · replace hF := br_F hc hF
    refine x_iload_n (i := 1) (b := 9) dX6_isWorse_8 rfl rfl rfl ?_
    refine x_aload_n (i := 0) (b := 10) dX6_isWorse_9 rfl rfl rfl ?_
    refine x_getI (v := gI h 6 0 4) (b := 13) fk_X6_24 dX6_isWorse_10 (by decide) rfl rfl ?_
    refine x_icmp_gt (tgt := 32) (b := 16) dX6_isWorse_13 (by decide) rfl (fun hc => ?_) (fun hc => ?_)
    · replace hF := br_T hc hF
      exact x_dp (ls2 := [none, none, none]) trivial (hr_32  h hL hF)
    · replace hF := br_F hc hF
      refine x_iload_n (i := 1) (b := 17) dX6_isWorse_16 rfl rfl rfl ?_
      refine x_aload_n (i := 0) (b := 18) dX6_isWorse_17 rfl rfl rfl ?_
      refine x_getI (v := gI h 6 0 4) (b := 21) fk_X6_24 dX6_isWorse_18 (by decide) rfl rfl ?_
      refine x_icmp_ne (tgt := 36) (b := 24) dX6_isWorse_21 (by decide) rfl (fun hc => ?_) (fun hc => ?_)
      · replace hF := br_F hc hF
        refine x_iconst (n := 0) (b := 37) dX6_isWorse_36 (by decide) rfl ?_
        refine x_zreturn dX6_isWorse_37 rfl ⟨Nat.le_refl _, Nat.le_refl _⟩ (by decide) ?_
        cases hF
        exact ⟨rfl, rfl, hL⟩
      · replace hF := br_T hc hF
        refine x_iload_n (i := 2) (b := 25) dX6_isWorse_24 rfl rfl rfl ?_
        refine x_aload_n (i := 0) (b := 26) dX6_isWorse_25 rfl rfl rfl ?_
        refine x_getI (v := gI h 6 0 5) (b := 29) fk_X6_28 dX6_isWorse_26 (by decide) rfl rfl ?_
        refine x_icmp_lt (tgt := 36) (b := 32) dX6_isWorse_29 (by decide) rfl (fun hc => ?_) (fun hc => ?_)
        · replace hF := br_T hc hF
          refine x_iconst (n := 0) (b := 37) dX6_isWorse_36 (by decide) rfl ?_
          refine x_zreturn dX6_isWorse_37 rfl ⟨Nat.le_refl _, Nat.le_refl _⟩ (by decide) ?_
          cases hF
          exact ⟨rfl, rfl, hL⟩
        · replace hF := br_F hc hF
          exact x_dp (ls2 := [none, none, none]) trivial (hr_32  h hL hF)
set_option maxHeartbeats 4000000 in
set_option maxRecDepth 100000 in
theorem t_X6_isWorse_1 (E : xE) (d : Nat) (rec : Rk) (r : Int × Hp) (h : Hp) (hL : Lay h) (hF : b_X6_isWorse_1 rec  h = some r) : X E mX6_isWorse (d + 1) (0, 0) (0, 0) 32 [none, none, none] [] h (PoI r) := by
  unfold b_X6_isWorse_1 at hF
  refine x_iconst (n := 1) (b := 33) dX6_isWorse_32 (by decide) rfl ?_
  refine x_goto (tgt := 37) dX6_isWorse_33 (by decide) ?_
  refine x_zreturn dX6_isWorse_37 rfl ⟨Nat.le_refl _, Nat.le_refl _⟩ (by decide) ?_
  cases hF
  exact ⟨rfl, rfl, hL⟩
set_option maxHeartbeats 4000000 in
set_option maxRecDepth 100000 in
theorem u_X6_isWorse (E : xE) (d : Nat) (r : Int × Hp) : ∀ n : Nat, (∀ (x1 x2 : Int) (h : Hp), Lay h → g_X6_isWorse n 0 [x1, x2] h = some r → X E mX6_isWorse (d + 1) (0, 0) (0, 0) 0 [some (xr 6 0), some (xi x1), some (xi x2)] [] h (PoI r)) ∧ (∀ (h : Hp), Lay h → g_X6_isWorse n 1 [] h = some r → X E mX6_isWorse (d + 1) (0, 0) (0, 0) 32 [none, none, none] [] h (PoI r)) := by
  intro n
  induction n with
  | zero => exact ⟨fun _ _ _ _ hF => no_e (r := r) hF, fun _ _ hF => no_e (r := r) hF⟩
  | succ n ih => exact ⟨fun x1 x2 h hL hF => t_X6_isWorse_0 E d (g_X6_isWorse n) r ih.2 x1 x2 h hL hF, fun h hL hF => t_X6_isWorse_1 E d (g_X6_isWorse n) r   h hL hF⟩
theorem c_X6_isWorse (d : Nat) (x1 x2 : Int) (h : Hp) (r : Int × Hp) (hL : Lay h) (hF : f_X6_isWorse x1 x2 h = some r) : Sp mX6_isWorse (d + 1) (0, 0) [xr 6 0, xi x1, xi x2] h (PoI r) :=
  sp_of (by decide) rfl (Nat.le_of_ble_eq_true rfl) (ls := [some (xr 6 0), some (xi x1), some (xi x2)]) rfl (fun E _ => (u_X6_isWorse E d r FU).1 x1 x2 h hL hF)
theorem dX6_take_0 : decode cX6_take 0 = .ok (.aload_n 0, 1) := by decide +kernel
theorem dX6_take_1 : decode cX6_take 1 = .ok (.iload_n 1, 1) := by decide +kernel
theorem dX6_take_2 : decode cX6_take 2 = .ok (.putfield 24, 3) := by decide +kernel
theorem dX6_take_5 : decode cX6_take 5 = .ok (.aload_n 0, 1) := by decide +kernel
theorem dX6_take_6 : decode cX6_take 6 = .ok (.iload_n 2, 1) := by decide +kernel
theorem dX6_take_7 : decode cX6_take 7 = .ok (.putfield 28, 3) := by decide +kernel
theorem dX6_take_10 : decode cX6_take 10 = .ok (.iconst 0, 1) := by decide +kernel
theorem dX6_take_11 : decode cX6_take 11 = .ok (.istore_n 3, 1) := by decide +kernel
theorem dX6_take_12 : decode cX6_take 12 = .ok (.iload_n 3, 1) := by decide +kernel
theorem dX6_take_13 : decode cX6_take 13 = .ok (.iconst 3, 1) := by decide +kernel
theorem dX6_take_14 : decode cX6_take 14 = .ok (.if_icmp .ge 21, 3) := by decide +kernel
theorem dX6_take_17 : decode cX6_take 17 = .ok (.aload_n 0, 1) := by decide +kernel
theorem dX6_take_18 : decode cX6_take 18 = .ok (.getfield 21, 3) := by decide +kernel
theorem dX6_take_21 : decode cX6_take 21 = .ok (.iload_n 3, 1) := by decide +kernel
theorem dX6_take_22 : decode cX6_take 22 = .ok (.aload_n 0, 1) := by decide +kernel
theorem dX6_take_23 : decode cX6_take 23 = .ok (.getfield 17, 3) := by decide +kernel
theorem dX6_take_26 : decode cX6_take 26 = .ok (.iload_n 3, 1) := by decide +kernel
theorem dX6_take_27 : decode cX6_take 27 = .ok (.iaload, 1) := by decide +kernel
theorem dX6_take_28 : decode cX6_take 28 = .ok (.iastore, 1) := by decide +kernel
theorem dX6_take_29 : decode cX6_take 29 = .ok (.iinc 3 1, 3) := by decide +kernel
theorem dX6_take_32 : decode cX6_take 32 = .ok (.goto (-20), 3) := by decide +kernel
theorem dX6_take_35 : decode cX6_take 35 = .ok (.return_, 1) := by decide +kernel
noncomputable def b_X6_take_0 (rec : Rk) (x1 x2 : Int) (h : Hp) : Option (Int × Hp) :=
  lt (sI h 6 0 4 x1) fun h1 =>
  lt (sI h1 6 0 5 x2) fun h2 =>
  rec 1 [0] h2
noncomputable def b_X6_take_1 (rec : Rk) (x3 : Int) (h : Hp) : Option (Int × Hp) :=
  if 3 ≤ x3 then (
    some (0, h)
  ) else (
    ck (0 ≤ x3 ∧ x3 < 3) <|
    ck (0 ≤ x3 ∧ x3 < 3) <|
    lt (sI h 45 0 x3 (gI h 44 0 x3)) fun h1 =>
    ck (-2147483648 ≤ x3 + 1 ∧ x3 + 1 < 2147483648) <|
    rec 1 [x3 + 1] h1
  )
noncomputable def g_X6_take (n : Nat) : Rk := Nat.rec (motive := fun _ => Rk) (fun _ _ _ => none) (fun _ rec k l h => if k = 0 then b_X6_take_0 rec (l.getD 0 0) (l.getD 1 0) h else if k = 1 then b_X6_take_1 rec (l.getD 0 0) h else none) n
noncomputable def f_X6_take (x1 x2 : Int) (h : Hp) : Option (Int × Hp) := g_X6_take FU 0 [x1, x2] h
set_option maxHeartbeats 4000000 in
set_option maxRecDepth 100000 in
theorem t_X6_take_0 (E : xE) (d : Nat) (rec : Rk) (r : Int × Hp) (hr_12 : ∀ (x3 : Int) (h : Hp), Lay h → rec 1 [x3] h = some r → X E mX6_take (d + 1) (0, 0) (0, 0) 12 [some (xr 6 0), none, none, some (xi x3)] [] h (PoV r)) (x1 x2 : Int) (h : Hp) (hL : Lay h) (hF : b_X6_take_0 rec x1 x2 h = some r) : X E mX6_take (d + 1) (0, 0) (0, 0) 0 [some (xr 6 0), some (xi x1), some (xi x2), none] [] h (PoV r) := by
  unfold b_X6_take_0 at hF
  refine x_aload_n (i := 0) (b := 1) dX6_take_0 rfl rfl rfl ?_
  refine x_iload_n (i := 1) (b := 2) dX6_take_1 rfl rfl rfl ?_
  refine x_putI (b := 5) fk_X6_24 dX6_take_2 rfl rfl 4 rfl ?_
  obtain ⟨h1, e_h1, hF⟩ := lt_e hF
  refine x_hp (h2 := h1) e_h1 ?_
  replace hL : Lay h1 := by rw [← e_h1]; exact hL
  refine x_aload_n (i := 0) (b := 6) dX6_take_5 rfl rfl rfl ?_
  refine x_iload_n (i := 2) (b := 7) dX6_take_6 rfl rfl rfl ?_
  refine x_putI (b := 10) fk_X6_28 dX6_take_7 rfl rfl 5 rfl ?_
  obtain ⟨h2, e_h2, hF⟩ := lt_e hF
  refine x_hp (h2 := h2) e_h2 ?_
  replace hL : Lay h2 := by rw [← e_h2]; exact hL
  refine x_iconst (n := 0) (b := 11) dX6_take_10 (by decide) rfl ?_
  refine x_istore_n (i := 3) (b := 12) (ls2 := [some (xr 6 0), some (xi x1), some (xi x2), some (xi 0)]) dX6_take_11 rfl (Nat.le_of_ble_eq_true rfl) rfl rfl ?_
  exact x_dp (ls2 := [some (xr 6 0), none, none, some (xi 0)]) ⟨rfl, rfl, trivial⟩ (hr_12 0 h2 hL hF)
set_option maxHeartbeats 4000000 in
set_option maxRecDepth 100000 in
theorem t_X6_take_1 (E : xE) (d : Nat) (rec : Rk) (r : Int × Hp) (hr_12 : ∀ (x3 : Int) (h : Hp), Lay h → rec 1 [x3] h = some r → X E mX6_take (d + 1) (0, 0) (0, 0) 12 [some (xr 6 0), none, none, some (xi x3)] [] h (PoV r)) (x3 : Int) (h : Hp) (hL : Lay h) (hF : b_X6_take_1 rec x3 h = some r) : X E mX6_take (d + 1) (0, 0) (0, 0) 12 [some (xr 6 0), none, none, some (xi x3)] [] h (PoV r) := by
  unfold b_X6_take_1 at hF
  refine x_iload_n (i := 3) (b := 13) dX6_take_12 rfl rfl rfl ?_
  refine x_iconst (n := 3) (b := 14) dX6_take_13 (by decide) rfl ?_
  refine x_icmp_ge (tgt := 35) (b := 17) dX6_take_14 (by decide) rfl (fun hc => ?_) (fun hc => ?_)
  · replace hF := br_T hc hF
    refine x_return dX6_take_35 rfl ⟨Nat.le_refl _, Nat.le_refl _⟩ ?_
    cases hF
    exact ⟨rfl, rfl, hL⟩
  · replace hF := br_F hc hF
    refine x_aload_n (i := 0) (b := 18) dX6_take_17 rfl rfl rfl ?_
    refine x_getL (j := 0) (t := (45, 0, true)) (b := 21) fk_X6_21 dX6_take_18 rfl hL rfl rfl rfl ?_
    refine x_iload_n (i := 3) (b := 22) dX6_take_21 rfl rfl rfl ?_
    refine x_aload_n (i := 0) (b := 23) dX6_take_22 rfl rfl rfl ?_
    refine x_getL (j := 0) (t := (44, 0, true)) (b := 26) fk_X6_17 dX6_take_23 rfl hL rfl rfl rfl ?_
    refine x_iload_n (i := 3) (b := 27) dX6_take_26 rfl rfl rfl ?_
    obtain ⟨hs, hF⟩ := ck_e hF
    refine x_iald (v := gI h 44 0 x3) (b := 28) ak_44 dX6_take_27 hs rfl rfl ?_
    obtain ⟨hs, hF⟩ := ck_e hF
    have hs1 := hs
    refine x_iast (b := 29) ak_45 dX6_take_28 hs1 rfl ?_
    obtain ⟨h1, e_h1, hF⟩ := lt_e hF
    refine x_hp (h2 := h1) e_h1 ?_
    replace hL : Lay h1 := by rw [← e_h1]; exact hL
    obtain ⟨hs, hF⟩ := ck_e hF
    refine x_iinc (i := 3) (b := 32) (ls2 := [some (xr 6 0), none, none, some (xi (x3 + 1))]) dX6_take_29 rfl (Nat.le_of_ble_eq_true rfl) hs rfl rfl ?_
    refine x_goto (tgt := 12) dX6_take_32 (by decide) ?_
    exact x_dp (ls2 := [some (xr 6 0), none, none, some (xi (x3 + 1))]) ⟨rfl, rfl, trivial⟩ (hr_12 (x3 + 1) h1 hL hF)
set_option maxHeartbeats 4000000 in
set_option maxRecDepth 100000 in
theorem u_X6_take (E : xE) (d : Nat) (r : Int × Hp) : ∀ n : Nat, (∀ (x1 x2 : Int) (h : Hp), Lay h → g_X6_take n 0 [x1, x2] h = some r → X E mX6_take (d + 1) (0, 0) (0, 0) 0 [some (xr 6 0), some (xi x1), some (xi x2), none] [] h (PoV r)) ∧ (∀ (x3 : Int) (h : Hp), Lay h → g_X6_take n 1 [x3] h = some r → X E mX6_take (d + 1) (0, 0) (0, 0) 12 [some (xr 6 0), none, none, some (xi x3)] [] h (PoV r)) := by
  intro n
  induction n with
  | zero => exact ⟨fun _ _ _ _ hF => no_e (r := r) hF, fun _ _ _ hF => no_e (r := r) hF⟩
  | succ n ih => exact ⟨fun x1 x2 h hL hF => t_X6_take_0 E d (g_X6_take n) r ih.2 x1 x2 h hL hF, fun x3 h hL hF => t_X6_take_1 E d (g_X6_take n) r ih.2 x3 h hL hF⟩
theorem c_X6_take (d : Nat) (x1 x2 : Int) (h : Hp) (r : Int × Hp) (hL : Lay h) (hF : f_X6_take x1 x2 h = some r) : Sp mX6_take (d + 1) (0, 0) [xr 6 0, xi x1, xi x2] h (PoV r) :=
  sp_of (by decide) rfl (Nat.le_of_ble_eq_true rfl) (ls := [some (xr 6 0), some (xi x1), some (xi x2), none]) rfl (fun E _ => (u_X6_take E d r FU).1 x1 x2 h hL hF)
theorem dX7_addLeaf_0 : decode cX7_addLeaf 0 = .ok (.aload_n 0, 1) := by decide +kernel
theorem dX7_addLeaf_1 : decode cX7_addLeaf 1 = .ok (.getfield 26, 3) := by decide +kernel
theorem dX7_addLeaf_4 : decode cX7_addLeaf 4 = .ok (.iconst 3, 1) := by decide +kernel
theorem dX7_addLeaf_5 : decode cX7_addLeaf 5 = .ok (.if_icmp .ne 21, 3) := by decide +kernel
theorem dX7_addLeaf_8 : decode cX7_addLeaf 8 = .ok (.aload_n 0, 1) := by decide +kernel
theorem dX7_addLeaf_9 : decode cX7_addLeaf 9 = .ok (.getfield 76, 3) := by decide +kernel
theorem dX7_addLeaf_12 : decode cX7_addLeaf 12 = .ok (.getfield 313, 3) := by decide +kernel
theorem dX7_addLeaf_15 : decode cX7_addLeaf 15 = .ok (.iconst 0, 1) := by decide +kernel
theorem dX7_addLeaf_16 : decode cX7_addLeaf 16 = .ok (.aload_n 0, 1) := by decide +kernel
theorem dX7_addLeaf_17 : decode cX7_addLeaf 17 = .ok (.getfield 32, 3) := by decide +kernel
theorem dX7_addLeaf_20 : decode cX7_addLeaf 20 = .ok (.invokevirtual 349, 3) := by decide +kernel
theorem dX7_addLeaf_23 : decode cX7_addLeaf 23 = .ok (.goto 21, 3) := by decide +kernel
theorem dX7_addLeaf_26 : decode cX7_addLeaf 26 = .ok (.aload_n 0, 1) := by decide +kernel
theorem dX7_addLeaf_27 : decode cX7_addLeaf 27 = .ok (.getfield 76, 3) := by decide +kernel
theorem dX7_addLeaf_30 : decode cX7_addLeaf 30 = .ok (.getfield 313, 3) := by decide +kernel
theorem dX7_addLeaf_33 : decode cX7_addLeaf 33 = .ok (.iconst 1, 1) := by decide +kernel
theorem dX7_addLeaf_34 : decode cX7_addLeaf 34 = .ok (.aload_n 0, 1) := by decide +kernel
theorem dX7_addLeaf_35 : decode cX7_addLeaf 35 = .ok (.getfield 35, 3) := by decide +kernel
theorem dX7_addLeaf_38 : decode cX7_addLeaf 38 = .ok (.bipush 20, 2) := by decide +kernel
theorem dX7_addLeaf_40 : decode cX7_addLeaf 40 = .ok (.isub, 1) := by decide +kernel
theorem dX7_addLeaf_41 : decode cX7_addLeaf 41 = .ok (.invokevirtual 349, 3) := by decide +kernel
theorem dX7_addLeaf_44 : decode cX7_addLeaf 44 = .ok (.iconst 1, 1) := by decide +kernel
theorem dX7_addLeaf_45 : decode cX7_addLeaf 45 = .ok (.ireturn, 1) := by decide +kernel
noncomputable def b_X7_addLeaf_0 (rec : Rk) (h : Hp) : Option (Int × Hp) :=
  if (gI h 7 0 6) = 3 then (
    rf (gR h 7 0 1) 0 fun j1 =>
    bd (f_X1_add j1 0 (gI h 7 0 8) h) fun v2 h3 =>
    some (1, h3)
  ) else (
    rf (gR h 7 0 1) 0 fun j4 =>
    ck (-2147483648 ≤ (gI h 7 0 9) - 20 ∧ (gI h 7 0 9) - 20 < 2147483648) <|
    bd (f_X1_add j4 1 ((gI h 7 0 9) - 20) h) fun v5 h6 =>
    some (1, h6)
  )
noncomputable def g_X7_addLeaf (n : Nat) : Rk := Nat.rec (motive := fun _ => Rk) (fun _ _ _ => none) (fun _ rec k l h => if k = 0 then b_X7_addLeaf_0 rec  h else none) n
noncomputable def f_X7_addLeaf (h : Hp) : Option (Int × Hp) := g_X7_addLeaf FU 0 [] h
set_option maxHeartbeats 4000000 in
set_option maxRecDepth 100000 in
theorem t_X7_addLeaf_0 (E : xE) (d : Nat) (rec : Rk) (r : Int × Hp) (h : Hp) (hL : Lay h) (hF : b_X7_addLeaf_0 rec  h = some r) : X E mX7_addLeaf (d + 2) (0, 0) (0, 0) 0 [some (xr 7 0)] [] h (PoI r) := by
  unfold b_X7_addLeaf_0 at hF
  refine x_aload_n (i := 0) (b := 1) dX7_addLeaf_0 rfl rfl rfl ?_
  refine x_getI (v := gI h 7 0 6) (b := 4) fk_X7_26 dX7_addLeaf_1 (by decide) rfl rfl ?_
  refine x_iconst (n := 3) (b := 5) dX7_addLeaf_4 (by decide) rfl ?_
  refine x_icmp_ne (tgt := 26) (b := 8) dX7_addLeaf_5 (by decide) rfl (fun hc => ?_) (fun hc => ?_)
  · replace hF := br_F hc hF
    refine x_aload_n (i := 0) (b := 27) dX7_addLeaf_26 rfl rfl rfl ?_
    obtain ⟨j4, e_j4, hF⟩ := rf_e hF
    refine x_getR (v := some (0, j4)) (b := 30) fk_X7_76 dX7_addLeaf_27 rfl e_j4 rfl ?_
    refine x_getL (j := j4) (t := (1, 0, true)) (b := 33) fk_X7_313 dX7_addLeaf_30 rfl hL rfl rfl rfl ?_
    refine x_iconst (n := 1) (b := 34) dX7_addLeaf_33 (by decide) rfl ?_
    refine x_aload_n (i := 0) (b := 35) dX7_addLeaf_34 rfl rfl rfl ?_
    refine x_getI (v := gI h 7 0 9) (b := 38) fk_X7_35 dX7_addLeaf_35 (by decide) rfl rfl ?_
    refine x_bipush (n := 20) (b := 40) dX7_addLeaf_38 (by decide) rfl ?_
    obtain ⟨hs, hF⟩ := ck_e hF
    refine x_isub (b := 41) dX7_addLeaf_40 hs rfl ?_
    obtain ⟨v5, h6, hq, hF⟩ := bd_e hF
    refine x_callV (as := [xi 1, xi ((gI h 7 0 9) - 20)]) (rest := []) (b := 44) (c_X1_add d j4 1 ((gI h 7 0 9) - 20) h _ hL hq) dX7_addLeaf_41 cw_X7_349 ⟨_, _, rfl, Nat.le_of_ble_eq_true rfl⟩ rfl rfl (Nat.le_of_ble_eq_true rfl) ⟨Nat.le_refl _, Nat.le_refl _⟩ rfl (fun rv hh hp _ => ?_)
    obtain ⟨rfl, rfl, hL⟩ := hp
    refine x_iconst (n := 1) (b := 45) dX7_addLeaf_44 (by decide) rfl ?_
    refine x_zreturn dX7_addLeaf_45 rfl ⟨Nat.le_refl _, Nat.le_refl _⟩ (by decide) ?_
    cases hF
    exact ⟨rfl, rfl, hL⟩
  · replace hF := br_T hc hF
    refine x_aload_n (i := 0) (b := 9) dX7_addLeaf_8 rfl rfl rfl ?_
    obtain ⟨j1, e_j1, hF⟩ := rf_e hF
    refine x_getR (v := some (0, j1)) (b := 12) fk_X7_76 dX7_addLeaf_9 rfl e_j1 rfl ?_
    refine x_getL (j := j1) (t := (1, 0, true)) (b := 15) fk_X7_313 dX7_addLeaf_12 rfl hL rfl rfl rfl ?_
    refine x_iconst (n := 0) (b := 16) dX7_addLeaf_15 (by decide) rfl ?_
    refine x_aload_n (i := 0) (b := 17) dX7_addLeaf_16 rfl rfl rfl ?_
    refine x_getI (v := gI h 7 0 8) (b := 20) fk_X7_32 dX7_addLeaf_17 (by decide) rfl rfl ?_
    obtain ⟨v2, h3, hq, hF⟩ := bd_e hF
    refine x_callV (as := [xi 0, xi (gI h 7 0 8)]) (rest := []) (b := 23) (c_X1_add d j1 0 (gI h 7 0 8) h _ hL hq) dX7_addLeaf_20 cw_X7_349 ⟨_, _, rfl, Nat.le_of_ble_eq_true rfl⟩ rfl rfl (Nat.le_of_ble_eq_true rfl) ⟨Nat.le_refl _, Nat.le_refl _⟩ rfl (fun rv hh hp _ => ?_)
    obtain ⟨rfl, rfl, hL⟩ := hp
    refine x_goto (tgt := 44) dX7_addLeaf_23 (by decide) ?_
    refine x_iconst (n := 1) (b := 45) dX7_addLeaf_44 (by decide) rfl ?_
    refine x_zreturn dX7_addLeaf_45 rfl ⟨Nat.le_refl _, Nat.le_refl _⟩ (by decide) ?_
    cases hF
    exact ⟨rfl, rfl, hL⟩
set_option maxHeartbeats 4000000 in
set_option maxRecDepth 100000 in
theorem u_X7_addLeaf (E : xE) (d : Nat) (r : Int × Hp) : ∀ n : Nat, (∀ (h : Hp), Lay h → g_X7_addLeaf n 0 [] h = some r → X E mX7_addLeaf (d + 2) (0, 0) (0, 0) 0 [some (xr 7 0)] [] h (PoI r)) := by
  intro n
  induction n with
  | zero => exact fun _ _ hF => no_e (r := r) hF
  | succ n ih => exact fun h hL hF => t_X7_addLeaf_0 E d (g_X7_addLeaf n) r   h hL hF
theorem c_X7_addLeaf (d : Nat) (h : Hp) (r : Int × Hp) (hL : Lay h) (hF : f_X7_addLeaf  h = some r) : Sp mX7_addLeaf (d + 2) (0, 0) [xr 7 0] h (PoI r) :=
  sp_of (by decide) rfl (Nat.le_of_ble_eq_true rfl) (ls := [some (xr 7 0)]) rfl (fun E _ => (u_X7_addLeaf E d r FU)  h hL hF)
theorem dX7_advance_0 : decode cX7_advance 0 = .ok (.aload_n 0, 1) := by decide +kernel
theorem dX7_advance_1 : decode cX7_advance 1 = .ok (.iconst 0, 1) := by decide +kernel
theorem dX7_advance_2 : decode cX7_advance 2 = .ok (.aload_n 0, 1) := by decide +kernel
theorem dX7_advance_3 : decode cX7_advance 3 = .ok (.getfield 21, 3) := by decide +kernel
theorem dX7_advance_6 : decode cX7_advance 6 = .ok (.iconst 1, 1) := by decide +kernel
theorem dX7_advance_7 : decode cX7_advance 7 = .ok (.iadd, 1) := by decide +kernel
theorem dX7_advance_8 : decode cX7_advance 8 = .ok (.aload_n 0, 1) := by decide +kernel
theorem dX7_advance_9 : decode cX7_advance 9 = .ok (.getfield 72, 3) := by decide +kernel
theorem dX7_advance_12 : decode cX7_advance 12 = .ok (.getfield 99, 3) := by decide +kernel
theorem dX7_advance_15 : decode cX7_advance 15 = .ok (.iconst 1, 1) := by decide +kernel
theorem dX7_advance_16 : decode cX7_advance 16 = .ok (.isub, 1) := by decide +kernel
theorem dX7_advance_17 : decode cX7_advance 17 = .ok (.invokestatic 102, 3) := by decide +kernel
theorem dX7_advance_20 : decode cX7_advance 20 = .ok (.invokestatic 108, 3) := by decide +kernel
theorem dX7_advance_23 : decode cX7_advance 23 = .ok (.putfield 21, 3) := by decide +kernel
theorem dX7_advance_26 : decode cX7_advance 26 = .ok (.aload_n 0, 1) := by decide +kernel
theorem dX7_advance_27 : decode cX7_advance 27 = .ok (.getfield 21, 3) := by decide +kernel
theorem dX7_advance_30 : decode cX7_advance 30 = .ok (.sipush 800, 3) := by decide +kernel
theorem dX7_advance_33 : decode cX7_advance 33 = .ok (.if_icmp .le 4, 3) := by decide +kernel
theorem dX7_advance_36 : decode cX7_advance 36 = .ok (.return_, 1) := by decide +kernel
theorem dX7_advance_37 : decode cX7_advance 37 = .ok (.aload_n 0, 1) := by decide +kernel
theorem dX7_advance_38 : decode cX7_advance 38 = .ok (.aload_n 0, 1) := by decide +kernel
theorem dX7_advance_39 : decode cX7_advance 39 = .ok (.getfield 72, 3) := by decide +kernel
theorem dX7_advance_42 : decode cX7_advance 42 = .ok (.getfield 111, 3) := by decide +kernel
theorem dX7_advance_45 : decode cX7_advance 45 = .ok (.aload_n 0, 1) := by decide +kernel
theorem dX7_advance_46 : decode cX7_advance 46 = .ok (.getfield 21, 3) := by decide +kernel
theorem dX7_advance_49 : decode cX7_advance 49 = .ok (.iaload, 1) := by decide +kernel
theorem dX7_advance_50 : decode cX7_advance 50 = .ok (.putfield 26, 3) := by decide +kernel
theorem dX7_advance_53 : decode cX7_advance 53 = .ok (.aload_n 0, 1) := by decide +kernel
theorem dX7_advance_54 : decode cX7_advance 54 = .ok (.aload_n 0, 1) := by decide +kernel
theorem dX7_advance_55 : decode cX7_advance 55 = .ok (.getfield 72, 3) := by decide +kernel
theorem dX7_advance_58 : decode cX7_advance 58 = .ok (.getfield 114, 3) := by decide +kernel
theorem dX7_advance_61 : decode cX7_advance 61 = .ok (.aload_n 0, 1) := by decide +kernel
theorem dX7_advance_62 : decode cX7_advance 62 = .ok (.getfield 21, 3) := by decide +kernel
theorem dX7_advance_65 : decode cX7_advance 65 = .ok (.iaload, 1) := by decide +kernel
theorem dX7_advance_66 : decode cX7_advance 66 = .ok (.putfield 29, 3) := by decide +kernel
theorem dX7_advance_69 : decode cX7_advance 69 = .ok (.aload_n 0, 1) := by decide +kernel
theorem dX7_advance_70 : decode cX7_advance 70 = .ok (.aload_n 0, 1) := by decide +kernel
theorem dX7_advance_71 : decode cX7_advance 71 = .ok (.getfield 72, 3) := by decide +kernel
theorem dX7_advance_74 : decode cX7_advance 74 = .ok (.getfield 117, 3) := by decide +kernel
theorem dX7_advance_77 : decode cX7_advance 77 = .ok (.aload_n 0, 1) := by decide +kernel
theorem dX7_advance_78 : decode cX7_advance 78 = .ok (.getfield 21, 3) := by decide +kernel
theorem dX7_advance_81 : decode cX7_advance 81 = .ok (.iaload, 1) := by decide +kernel
theorem dX7_advance_82 : decode cX7_advance 82 = .ok (.putfield 32, 3) := by decide +kernel
theorem dX7_advance_85 : decode cX7_advance 85 = .ok (.aload_n 0, 1) := by decide +kernel
theorem dX7_advance_86 : decode cX7_advance 86 = .ok (.aload_n 0, 1) := by decide +kernel
theorem dX7_advance_87 : decode cX7_advance 87 = .ok (.getfield 26, 3) := by decide +kernel
theorem dX7_advance_90 : decode cX7_advance 90 = .ok (.iconst 2, 1) := by decide +kernel
theorem dX7_advance_91 : decode cX7_advance 91 = .ok (.if_icmp .ne 10, 3) := by decide +kernel
theorem dX7_advance_94 : decode cX7_advance 94 = .ok (.aload_n 0, 1) := by decide +kernel
theorem dX7_advance_95 : decode cX7_advance 95 = .ok (.getfield 32, 3) := by decide +kernel
theorem dX7_advance_98 : decode cX7_advance 98 = .ok (.goto 4, 3) := by decide +kernel
theorem dX7_advance_101 : decode cX7_advance 101 = .ok (.iconst (-1), 1) := by decide +kernel
theorem dX7_advance_102 : decode cX7_advance 102 = .ok (.putfield 35, 3) := by decide +kernel
theorem dX7_advance_105 : decode cX7_advance 105 = .ok (.aload_n 0, 1) := by decide +kernel
theorem dX7_advance_106 : decode cX7_advance 106 = .ok (.aload_n 0, 1) := by decide +kernel
theorem dX7_advance_107 : decode cX7_advance 107 = .ok (.getfield 26, 3) := by decide +kernel
theorem dX7_advance_110 : decode cX7_advance 110 = .ok (.iconst 4, 1) := by decide +kernel
theorem dX7_advance_111 : decode cX7_advance 111 = .ok (.if_icmp .ne 10, 3) := by decide +kernel
theorem dX7_advance_114 : decode cX7_advance 114 = .ok (.aload_n 0, 1) := by decide +kernel
theorem dX7_advance_115 : decode cX7_advance 115 = .ok (.getfield 32, 3) := by decide +kernel
theorem dX7_advance_118 : decode cX7_advance 118 = .ok (.goto 4, 3) := by decide +kernel
theorem dX7_advance_121 : decode cX7_advance 121 = .ok (.iconst (-1), 1) := by decide +kernel
theorem dX7_advance_122 : decode cX7_advance 122 = .ok (.putfield 38, 3) := by decide +kernel
theorem dX7_advance_125 : decode cX7_advance 125 = .ok (.aload_n 0, 1) := by decide +kernel
theorem dX7_advance_126 : decode cX7_advance 126 = .ok (.getfield 35, 3) := by decide +kernel
theorem dX7_advance_129 : decode cX7_advance 129 = .ok (.bipush 17, 2) := by decide +kernel
theorem dX7_advance_131 : decode cX7_advance 131 = .ok (.if_icmp .lt 25, 3) := by decide +kernel
theorem dX7_advance_134 : decode cX7_advance 134 = .ok (.aload_n 0, 1) := by decide +kernel
theorem dX7_advance_135 : decode cX7_advance 135 = .ok (.getfield 35, 3) := by decide +kernel
theorem dX7_advance_138 : decode cX7_advance 138 = .ok (.bipush 19, 2) := by decide +kernel
theorem dX7_advance_140 : decode cX7_advance 140 = .ok (.if_icmp .gt 16, 3) := by decide +kernel
theorem dX7_advance_143 : decode cX7_advance 143 = .ok (.aload_n 0, 1) := by decide +kernel
theorem dX7_advance_144 : decode cX7_advance 144 = .ok (.aload_n 0, 1) := by decide +kernel
theorem dX7_advance_145 : decode cX7_advance 145 = .ok (.getfield 35, 3) := by decide +kernel
theorem dX7_advance_148 : decode cX7_advance 148 = .ok (.bipush 17, 2) := by decide +kernel
theorem dX7_advance_150 : decode cX7_advance 150 = .ok (.isub, 1) := by decide +kernel
theorem dX7_advance_151 : decode cX7_advance 151 = .ok (.iconst 2, 1) := by decide +kernel
theorem dX7_advance_152 : decode cX7_advance 152 = .ok (.iadd, 1) := by decide +kernel
theorem dX7_advance_153 : decode cX7_advance 153 = .ok (.putfield 38, 3) := by decide +kernel
theorem dX7_advance_156 : decode cX7_advance 156 = .ok (.return_, 1) := by decide +kernel
noncomputable def b_X7_advance_0 (rec : Rk) (h : Hp) : Option (Int × Hp) :=
  ck (-2147483648 ≤ (gI h 7 0 5) + 1 ∧ (gI h 7 0 5) + 1 < 2147483648) <|
  ck (-2147483648 ≤ (gI h 8 0 9) - 1 ∧ (gI h 8 0 9) - 1 < 2147483648) <|
  lt (sI h 7 0 5 (max 0 (min ((gI h 7 0 5) + 1) ((gI h 8 0 9) - 1)))) fun h1 =>
  if (gI h1 7 0 5) ≤ 800 then (
    ck (0 ≤ (gI h1 7 0 5) ∧ (gI h1 7 0 5) < 801) <|
    lt (sI h1 7 0 6 (gI h1 48 0 (gI h1 7 0 5))) fun h2 =>
    ck (0 ≤ (gI h2 7 0 5) ∧ (gI h2 7 0 5) < 801) <|
    lt (sI h2 7 0 7 (gI h2 50 0 (gI h2 7 0 5))) fun h3 =>
    ck (0 ≤ (gI h3 7 0 5) ∧ (gI h3 7 0 5) < 801) <|
    lt (sI h3 7 0 8 (gI h3 49 0 (gI h3 7 0 5))) fun h4 =>
    if (gI h4 7 0 6) = 2 then (
      rec 1 [gI h4 7 0 8] h4
    ) else (
      rec 1 [(-1)] h4
    )
  ) else (
    some (0, h1)
  )
noncomputable def b_X7_advance_1 (rec : Rk) (y0 : Int) (h : Hp) : Option (Int × Hp) :=
  lt (sI h 7 0 9 y0) fun h1 =>
  if (gI h1 7 0 6) = 4 then (
    rec 2 [gI h1 7 0 8] h1
  ) else (
    rec 2 [(-1)] h1
  )
noncomputable def b_X7_advance_2 (rec : Rk) (y0 : Int) (h : Hp) : Option (Int × Hp) :=
  lt (sI h 7 0 10 y0) fun h1 =>
  if (gI h1 7 0 9) < 17 then (
    some (0, h1)
  ) else (
    if 19 < (gI h1 7 0 9) then (
      some (0, h1)
    ) else (
      ck (-2147483648 ≤ (gI h1 7 0 9) - 17 ∧ (gI h1 7 0 9) - 17 < 2147483648) <|
      ck (-2147483648 ≤ ((gI h1 7 0 9) - 17) + 2 ∧ ((gI h1 7 0 9) - 17) + 2 < 2147483648) <|
      lt (sI h1 7 0 10 (((gI h1 7 0 9) - 17) + 2)) fun h2 =>
      some (0, h2)
    )
  )
noncomputable def g_X7_advance (n : Nat) : Rk := Nat.rec (motive := fun _ => Rk) (fun _ _ _ => none) (fun _ rec k l h => if k = 0 then b_X7_advance_0 rec  h else if k = 1 then b_X7_advance_1 rec (l.getD 0 0) h else if k = 2 then b_X7_advance_2 rec (l.getD 0 0) h else none) n
noncomputable def f_X7_advance (h : Hp) : Option (Int × Hp) := g_X7_advance FU 0 [] h
set_option maxHeartbeats 4000000 in
set_option maxRecDepth 100000 in
theorem t_X7_advance_0 (E : xE) (d : Nat) (rec : Rk) (r : Int × Hp) (hr_102 : ∀ (y0 : Int) (h : Hp), Lay h → rec 1 [y0] h = some r → X E mX7_advance (d + 1) (0, 0) (0, 0) 102 [some (xr 7 0)] [xi y0, xr 7 0] h (PoV r)) (h : Hp) (hL : Lay h) (hF : b_X7_advance_0 rec  h = some r) : X E mX7_advance (d + 1) (0, 0) (0, 0) 0 [some (xr 7 0)] [] h (PoV r) := by
  unfold b_X7_advance_0 at hF
  refine x_aload_n (i := 0) (b := 1) dX7_advance_0 rfl rfl rfl ?_
  refine x_iconst (n := 0) (b := 2) dX7_advance_1 (by decide) rfl ?_
  refine x_aload_n (i := 0) (b := 3) dX7_advance_2 rfl rfl rfl ?_
  refine x_getI (v := gI h 7 0 5) (b := 6) fk_X7_21 dX7_advance_3 (by decide) rfl rfl ?_
  refine x_iconst (n := 1) (b := 7) dX7_advance_6 (by decide) rfl ?_
  obtain ⟨hs, hF⟩ := ck_e hF
  refine x_iadd (b := 8) dX7_advance_7 hs rfl ?_
  refine x_aload_n (i := 0) (b := 9) dX7_advance_8 rfl rfl rfl ?_
  refine x_getL (j := 0) (t := (8, 0, false)) (b := 12) fk_X7_72 dX7_advance_9 rfl hL rfl rfl rfl ?_
  refine x_getI (v := gI h 8 0 9) (b := 15) fk_X7_99 dX7_advance_12 (by decide) rfl rfl ?_
  refine x_iconst (n := 1) (b := 16) dX7_advance_15 (by decide) rfl ?_
  obtain ⟨hs, hF⟩ := ck_e hF
  refine x_isub (b := 17) dX7_advance_16 hs rfl ?_
  refine x_min (b := 20) dX7_advance_17 mw_X7_102 (Nat.le_of_ble_eq_true rfl) ⟨Nat.le_refl _, Nat.le_refl _⟩ rfl ?_
  refine x_max (b := 23) dX7_advance_20 mw_X7_108 (Nat.le_of_ble_eq_true rfl) ⟨Nat.le_refl _, Nat.le_refl _⟩ rfl ?_
  refine x_putI (b := 26) fk_X7_21 dX7_advance_23 rfl rfl 5 rfl ?_
  obtain ⟨h1, e_h1, hF⟩ := lt_e hF
  refine x_hp (h2 := h1) e_h1 ?_
  replace hL : Lay h1 := by rw [← e_h1]; exact hL
  refine x_aload_n (i := 0) (b := 27) dX7_advance_26 rfl rfl rfl ?_
  refine x_getI (v := gI h1 7 0 5) (b := 30) fk_X7_21 dX7_advance_27 (by decide) rfl rfl ?_
  refine x_sipush (n := 800) (b := 33) dX7_advance_30 (by decide) rfl ?_
  refine x_icmp_le (tgt := 37) (b := 36) dX7_advance_33 (by decide) rfl (fun hc => ?_) (fun hc => ?_)
  · replace hF := br_T hc hF
    refine x_aload_n (i := 0) (b := 38) dX7_advance_37 rfl rfl rfl ?_
    refine x_aload_n (i := 0) (b := 39) dX7_advance_38 rfl rfl rfl ?_
    refine x_getL (j := 0) (t := (8, 0, false)) (b := 42) fk_X7_72 dX7_advance_39 rfl hL rfl rfl rfl ?_
    refine x_getL (j := 0) (t := (48, 0, true)) (b := 45) fk_X7_111 dX7_advance_42 rfl hL rfl rfl rfl ?_
    refine x_aload_n (i := 0) (b := 46) dX7_advance_45 rfl rfl rfl ?_
    refine x_getI (v := gI h1 7 0 5) (b := 49) fk_X7_21 dX7_advance_46 (by decide) rfl rfl ?_
    obtain ⟨hs, hF⟩ := ck_e hF
    refine x_iald (v := gI h1 48 0 (gI h1 7 0 5)) (b := 50) ak_48 dX7_advance_49 hs rfl rfl ?_
    refine x_putI (b := 53) fk_X7_26 dX7_advance_50 rfl rfl 6 rfl ?_
    obtain ⟨h2, e_h2, hF⟩ := lt_e hF
    refine x_hp (h2 := h2) e_h2 ?_
    replace hL : Lay h2 := by rw [← e_h2]; exact hL
    refine x_aload_n (i := 0) (b := 54) dX7_advance_53 rfl rfl rfl ?_
    refine x_aload_n (i := 0) (b := 55) dX7_advance_54 rfl rfl rfl ?_
    refine x_getL (j := 0) (t := (8, 0, false)) (b := 58) fk_X7_72 dX7_advance_55 rfl hL rfl rfl rfl ?_
    refine x_getL (j := 0) (t := (50, 0, true)) (b := 61) fk_X7_114 dX7_advance_58 rfl hL rfl rfl rfl ?_
    refine x_aload_n (i := 0) (b := 62) dX7_advance_61 rfl rfl rfl ?_
    refine x_getI (v := gI h2 7 0 5) (b := 65) fk_X7_21 dX7_advance_62 (by decide) rfl rfl ?_
    obtain ⟨hs, hF⟩ := ck_e hF
    refine x_iald (v := gI h2 50 0 (gI h2 7 0 5)) (b := 66) ak_50 dX7_advance_65 hs rfl rfl ?_
    refine x_putI (b := 69) fk_X7_29 dX7_advance_66 rfl rfl 7 rfl ?_
    obtain ⟨h3, e_h3, hF⟩ := lt_e hF
    refine x_hp (h2 := h3) e_h3 ?_
    replace hL : Lay h3 := by rw [← e_h3]; exact hL
    refine x_aload_n (i := 0) (b := 70) dX7_advance_69 rfl rfl rfl ?_
    refine x_aload_n (i := 0) (b := 71) dX7_advance_70 rfl rfl rfl ?_
    refine x_getL (j := 0) (t := (8, 0, false)) (b := 74) fk_X7_72 dX7_advance_71 rfl hL rfl rfl rfl ?_
    refine x_getL (j := 0) (t := (49, 0, true)) (b := 77) fk_X7_117 dX7_advance_74 rfl hL rfl rfl rfl ?_
    refine x_aload_n (i := 0) (b := 78) dX7_advance_77 rfl rfl rfl ?_
    refine x_getI (v := gI h3 7 0 5) (b := 81) fk_X7_21 dX7_advance_78 (by decide) rfl rfl ?_
    obtain ⟨hs, hF⟩ := ck_e hF
    refine x_iald (v := gI h3 49 0 (gI h3 7 0 5)) (b := 82) ak_49 dX7_advance_81 hs rfl rfl ?_
    refine x_putI (b := 85) fk_X7_32 dX7_advance_82 rfl rfl 8 rfl ?_
    obtain ⟨h4, e_h4, hF⟩ := lt_e hF
    refine x_hp (h2 := h4) e_h4 ?_
    replace hL : Lay h4 := by rw [← e_h4]; exact hL
    refine x_aload_n (i := 0) (b := 86) dX7_advance_85 rfl rfl rfl ?_
    refine x_aload_n (i := 0) (b := 87) dX7_advance_86 rfl rfl rfl ?_
    refine x_getI (v := gI h4 7 0 6) (b := 90) fk_X7_26 dX7_advance_87 (by decide) rfl rfl ?_
    refine x_iconst (n := 2) (b := 91) dX7_advance_90 (by decide) rfl ?_
    refine x_icmp_ne (tgt := 101) (b := 94) dX7_advance_91 (by decide) rfl (fun hc => ?_) (fun hc => ?_)
    · replace hF := br_F hc hF
      refine x_iconst (n := (-1)) (b := 102) dX7_advance_101 (by decide) rfl ?_
      exact x_dp (ls2 := [some (xr 7 0)]) ⟨rfl, trivial⟩ (hr_102 (-1) h4 hL hF)
    · replace hF := br_T hc hF
      refine x_aload_n (i := 0) (b := 95) dX7_advance_94 rfl rfl rfl ?_
      refine x_getI (v := gI h4 7 0 8) (b := 98) fk_X7_32 dX7_advance_95 (by decide) rfl rfl ?_
      refine x_goto (tgt := 102) dX7_advance_98 (by decide) ?_
      exact x_dp (ls2 := [some (xr 7 0)]) ⟨rfl, trivial⟩ (hr_102 (gI h4 7 0 8) h4 hL hF)
  · replace hF := br_F hc hF
    refine x_return dX7_advance_36 rfl ⟨Nat.le_refl _, Nat.le_refl _⟩ ?_
    cases hF
    exact ⟨rfl, rfl, hL⟩
set_option maxHeartbeats 4000000 in
set_option maxRecDepth 100000 in
theorem t_X7_advance_1 (E : xE) (d : Nat) (rec : Rk) (r : Int × Hp) (hr_122 : ∀ (y0 : Int) (h : Hp), Lay h → rec 2 [y0] h = some r → X E mX7_advance (d + 1) (0, 0) (0, 0) 122 [some (xr 7 0)] [xi y0, xr 7 0] h (PoV r)) (y0 : Int) (h : Hp) (hL : Lay h) (hF : b_X7_advance_1 rec y0 h = some r) : X E mX7_advance (d + 1) (0, 0) (0, 0) 102 [some (xr 7 0)] [xi y0, xr 7 0] h (PoV r) := by
  unfold b_X7_advance_1 at hF
  refine x_putI (b := 105) fk_X7_35 dX7_advance_102 rfl rfl 9 rfl ?_
  obtain ⟨h1, e_h1, hF⟩ := lt_e hF
  refine x_hp (h2 := h1) e_h1 ?_
  replace hL : Lay h1 := by rw [← e_h1]; exact hL
  refine x_aload_n (i := 0) (b := 106) dX7_advance_105 rfl rfl rfl ?_
  refine x_aload_n (i := 0) (b := 107) dX7_advance_106 rfl rfl rfl ?_
  refine x_getI (v := gI h1 7 0 6) (b := 110) fk_X7_26 dX7_advance_107 (by decide) rfl rfl ?_
  refine x_iconst (n := 4) (b := 111) dX7_advance_110 (by decide) rfl ?_
  refine x_icmp_ne (tgt := 121) (b := 114) dX7_advance_111 (by decide) rfl (fun hc => ?_) (fun hc => ?_)
  · replace hF := br_F hc hF
    refine x_iconst (n := (-1)) (b := 122) dX7_advance_121 (by decide) rfl ?_
    exact x_dp (ls2 := [some (xr 7 0)]) ⟨rfl, trivial⟩ (hr_122 (-1) h1 hL hF)
  · replace hF := br_T hc hF
    refine x_aload_n (i := 0) (b := 115) dX7_advance_114 rfl rfl rfl ?_
    refine x_getI (v := gI h1 7 0 8) (b := 118) fk_X7_32 dX7_advance_115 (by decide) rfl rfl ?_
    refine x_goto (tgt := 122) dX7_advance_118 (by decide) ?_
    exact x_dp (ls2 := [some (xr 7 0)]) ⟨rfl, trivial⟩ (hr_122 (gI h1 7 0 8) h1 hL hF)
set_option maxHeartbeats 4000000 in
set_option maxRecDepth 100000 in
theorem t_X7_advance_2 (E : xE) (d : Nat) (rec : Rk) (r : Int × Hp) (y0 : Int) (h : Hp) (hL : Lay h) (hF : b_X7_advance_2 rec y0 h = some r) : X E mX7_advance (d + 1) (0, 0) (0, 0) 122 [some (xr 7 0)] [xi y0, xr 7 0] h (PoV r) := by
  unfold b_X7_advance_2 at hF
  refine x_putI (b := 125) fk_X7_38 dX7_advance_122 rfl rfl 10 rfl ?_
  obtain ⟨h1, e_h1, hF⟩ := lt_e hF
  refine x_hp (h2 := h1) e_h1 ?_
  replace hL : Lay h1 := by rw [← e_h1]; exact hL
  refine x_aload_n (i := 0) (b := 126) dX7_advance_125 rfl rfl rfl ?_
  refine x_getI (v := gI h1 7 0 9) (b := 129) fk_X7_35 dX7_advance_126 (by decide) rfl rfl ?_
  refine x_bipush (n := 17) (b := 131) dX7_advance_129 (by decide) rfl ?_
  refine x_icmp_lt (tgt := 156) (b := 134) dX7_advance_131 (by decide) rfl (fun hc => ?_) (fun hc => ?_)
  · replace hF := br_T hc hF
    refine x_return dX7_advance_156 rfl ⟨Nat.le_refl _, Nat.le_refl _⟩ ?_
    cases hF
    exact ⟨rfl, rfl, hL⟩
  · replace hF := br_F hc hF
    refine x_aload_n (i := 0) (b := 135) dX7_advance_134 rfl rfl rfl ?_
    refine x_getI (v := gI h1 7 0 9) (b := 138) fk_X7_35 dX7_advance_135 (by decide) rfl rfl ?_
    refine x_bipush (n := 19) (b := 140) dX7_advance_138 (by decide) rfl ?_
    refine x_icmp_gt (tgt := 156) (b := 143) dX7_advance_140 (by decide) rfl (fun hc => ?_) (fun hc => ?_)
    · replace hF := br_T hc hF
      refine x_return dX7_advance_156 rfl ⟨Nat.le_refl _, Nat.le_refl _⟩ ?_
      cases hF
      exact ⟨rfl, rfl, hL⟩
    · replace hF := br_F hc hF
      refine x_aload_n (i := 0) (b := 144) dX7_advance_143 rfl rfl rfl ?_
      refine x_aload_n (i := 0) (b := 145) dX7_advance_144 rfl rfl rfl ?_
      refine x_getI (v := gI h1 7 0 9) (b := 148) fk_X7_35 dX7_advance_145 (by decide) rfl rfl ?_
      refine x_bipush (n := 17) (b := 150) dX7_advance_148 (by decide) rfl ?_
      obtain ⟨hs, hF⟩ := ck_e hF
      refine x_isub (b := 151) dX7_advance_150 hs rfl ?_
      refine x_iconst (n := 2) (b := 152) dX7_advance_151 (by decide) rfl ?_
      obtain ⟨hs, hF⟩ := ck_e hF
      refine x_iadd (b := 153) dX7_advance_152 hs rfl ?_
      refine x_putI (b := 156) fk_X7_38 dX7_advance_153 rfl rfl 10 rfl ?_
      obtain ⟨h2, e_h2, hF⟩ := lt_e hF
      refine x_hp (h2 := h2) e_h2 ?_
      replace hL : Lay h2 := by rw [← e_h2]; exact hL
      refine x_return dX7_advance_156 rfl ⟨Nat.le_refl _, Nat.le_refl _⟩ ?_
      cases hF
      exact ⟨rfl, rfl, hL⟩
set_option maxHeartbeats 4000000 in
set_option maxRecDepth 100000 in
theorem u_X7_advance (E : xE) (d : Nat) (r : Int × Hp) : ∀ n : Nat, (∀ (h : Hp), Lay h → g_X7_advance n 0 [] h = some r → X E mX7_advance (d + 1) (0, 0) (0, 0) 0 [some (xr 7 0)] [] h (PoV r)) ∧ (∀ (y0 : Int) (h : Hp), Lay h → g_X7_advance n 1 [y0] h = some r → X E mX7_advance (d + 1) (0, 0) (0, 0) 102 [some (xr 7 0)] [xi y0, xr 7 0] h (PoV r)) ∧ (∀ (y0 : Int) (h : Hp), Lay h → g_X7_advance n 2 [y0] h = some r → X E mX7_advance (d + 1) (0, 0) (0, 0) 122 [some (xr 7 0)] [xi y0, xr 7 0] h (PoV r)) := by
  intro n
  induction n with
  | zero => exact ⟨fun _ _ hF => no_e (r := r) hF, fun _ _ _ hF => no_e (r := r) hF, fun _ _ _ hF => no_e (r := r) hF⟩
  | succ n ih => exact ⟨fun h hL hF => t_X7_advance_0 E d (g_X7_advance n) r ih.2.1  h hL hF, fun y0 h hL hF => t_X7_advance_1 E d (g_X7_advance n) r ih.2.2 y0 h hL hF, fun y0 h hL hF => t_X7_advance_2 E d (g_X7_advance n) r  y0 h hL hF⟩
theorem c_X7_advance (d : Nat) (h : Hp) (r : Int × Hp) (hL : Lay h) (hF : f_X7_advance  h = some r) : Sp mX7_advance (d + 1) (0, 0) [xr 7 0] h (PoV r) :=
  sp_of (by decide) rfl (Nat.le_of_ble_eq_true rfl) (ls := [some (xr 7 0)]) rfl (fun E _ => (u_X7_advance E d r FU).1  h hL hF)
theorem dX7_goesOn_0 : decode cX7_goesOn 0 = .ok (.aload_n 0, 1) := by decide +kernel
theorem dX7_goesOn_1 : decode cX7_goesOn 1 = .ok (.getfield 38, 3) := by decide +kernel
theorem dX7_goesOn_4 : decode cX7_goesOn 4 = .ok (.iconst (-1), 1) := by decide +kernel
theorem dX7_goesOn_5 : decode cX7_goesOn 5 = .ok (.if_icmp .eq 33, 3) := by decide +kernel
theorem dX7_goesOn_8 : decode cX7_goesOn 8 = .ok (.aload_n 0, 1) := by decide +kernel
theorem dX7_goesOn_9 : decode cX7_goesOn 9 = .ok (.getfield 38, 3) := by decide +kernel
theorem dX7_goesOn_12 : decode cX7_goesOn 12 = .ok (.iconst 4, 1) := by decide +kernel
theorem dX7_goesOn_13 : decode cX7_goesOn 13 = .ok (.if_icmp .eq 25, 3) := by decide +kernel
theorem dX7_goesOn_16 : decode cX7_goesOn 16 = .ok (.aload_n 0, 1) := by decide +kernel
theorem dX7_goesOn_17 : decode cX7_goesOn 17 = .ok (.getfield 38, 3) := by decide +kernel
theorem dX7_goesOn_20 : decode cX7_goesOn 20 = .ok (.bipush 15, 2) := by decide +kernel
theorem dX7_goesOn_22 : decode cX7_goesOn 22 = .ok (.if_icmp .eq 16, 3) := by decide +kernel
theorem dX7_goesOn_25 : decode cX7_goesOn 25 = .ok (.aload_n 0, 1) := by decide +kernel
theorem dX7_goesOn_26 : decode cX7_goesOn 26 = .ok (.getfield 38, 3) := by decide +kernel
theorem dX7_goesOn_29 : decode cX7_goesOn 29 = .ok (.bipush 17, 2) := by decide +kernel
theorem dX7_goesOn_31 : decode cX7_goesOn 31 = .ok (.if_icmp .eq 7, 3) := by decide +kernel
theorem dX7_goesOn_34 : decode cX7_goesOn 34 = .ok (.iconst 1, 1) := by decide +kernel
theorem dX7_goesOn_35 : decode cX7_goesOn 35 = .ok (.goto 4, 3) := by decide +kernel
theorem dX7_goesOn_38 : decode cX7_goesOn 38 = .ok (.iconst 0, 1) := by decide +kernel
theorem dX7_goesOn_39 : decode cX7_goesOn 39 = .ok (.ireturn, 1) := by decide +kernel
noncomputable def b_X7_goesOn_0 (rec : Rk) (h : Hp) : Option (Int × Hp) :=
  if (gI h 7 0 10) = (-1) then (
    some (0, h)
  ) else (
    if (gI h 7 0 10) = 4 then (
      some (0, h)
    ) else (
      if (gI h 7 0 10) = 15 then (
        some (0, h)
      ) else (
        if (gI h 7 0 10) = 17 then (
          some (0, h)
        ) else (
          some (1, h)
        )
      )
    )
  )
noncomputable def g_X7_goesOn (n : Nat) : Rk := Nat.rec (motive := fun _ => Rk) (fun _ _ _ => none) (fun _ rec k l h => if k = 0 then b_X7_goesOn_0 rec  h else none) n
noncomputable def f_X7_goesOn (h : Hp) : Option (Int × Hp) := g_X7_goesOn FU 0 [] h
set_option maxHeartbeats 4000000 in
set_option maxRecDepth 100000 in
theorem t_X7_goesOn_0 (E : xE) (d : Nat) (rec : Rk) (r : Int × Hp) (h : Hp) (hL : Lay h) (hF : b_X7_goesOn_0 rec  h = some r) : X E mX7_goesOn (d + 1) (0, 0) (0, 0) 0 [some (xr 7 0)] [] h (PoI r) := by
  unfold b_X7_goesOn_0 at hF
  refine x_aload_n (i := 0) (b := 1) dX7_goesOn_0 rfl rfl rfl ?_
  refine x_getI (v := gI h 7 0 10) (b := 4) fk_X7_38 dX7_goesOn_1 (by decide) rfl rfl ?_
  refine x_iconst (n := (-1)) (b := 5) dX7_goesOn_4 (by decide) rfl ?_
  refine x_icmp_eq (tgt := 38) (b := 8) dX7_goesOn_5 (by decide) rfl (fun hc => ?_) (fun hc => ?_)
  · replace hF := br_T hc hF
    refine x_iconst (n := 0) (b := 39) dX7_goesOn_38 (by decide) rfl ?_
    refine x_zreturn dX7_goesOn_39 rfl ⟨Nat.le_refl _, Nat.le_refl _⟩ (by decide) ?_
    cases hF
    exact ⟨rfl, rfl, hL⟩
  · replace hF := br_F hc hF
    refine x_aload_n (i := 0) (b := 9) dX7_goesOn_8 rfl rfl rfl ?_
    refine x_getI (v := gI h 7 0 10) (b := 12) fk_X7_38 dX7_goesOn_9 (by decide) rfl rfl ?_
    refine x_iconst (n := 4) (b := 13) dX7_goesOn_12 (by decide) rfl ?_
    refine x_icmp_eq (tgt := 38) (b := 16) dX7_goesOn_13 (by decide) rfl (fun hc => ?_) (fun hc => ?_)
    · replace hF := br_T hc hF
      refine x_iconst (n := 0) (b := 39) dX7_goesOn_38 (by decide) rfl ?_
      refine x_zreturn dX7_goesOn_39 rfl ⟨Nat.le_refl _, Nat.le_refl _⟩ (by decide) ?_
      cases hF
      exact ⟨rfl, rfl, hL⟩
    · replace hF := br_F hc hF
      refine x_aload_n (i := 0) (b := 17) dX7_goesOn_16 rfl rfl rfl ?_
      refine x_getI (v := gI h 7 0 10) (b := 20) fk_X7_38 dX7_goesOn_17 (by decide) rfl rfl ?_
      refine x_bipush (n := 15) (b := 22) dX7_goesOn_20 (by decide) rfl ?_
      refine x_icmp_eq (tgt := 38) (b := 25) dX7_goesOn_22 (by decide) rfl (fun hc => ?_) (fun hc => ?_)
      · replace hF := br_T hc hF
        refine x_iconst (n := 0) (b := 39) dX7_goesOn_38 (by decide) rfl ?_
        refine x_zreturn dX7_goesOn_39 rfl ⟨Nat.le_refl _, Nat.le_refl _⟩ (by decide) ?_
        cases hF
        exact ⟨rfl, rfl, hL⟩
      · replace hF := br_F hc hF
        refine x_aload_n (i := 0) (b := 26) dX7_goesOn_25 rfl rfl rfl ?_
        refine x_getI (v := gI h 7 0 10) (b := 29) fk_X7_38 dX7_goesOn_26 (by decide) rfl rfl ?_
        refine x_bipush (n := 17) (b := 31) dX7_goesOn_29 (by decide) rfl ?_
        refine x_icmp_eq (tgt := 38) (b := 34) dX7_goesOn_31 (by decide) rfl (fun hc => ?_) (fun hc => ?_)
        · replace hF := br_T hc hF
          refine x_iconst (n := 0) (b := 39) dX7_goesOn_38 (by decide) rfl ?_
          refine x_zreturn dX7_goesOn_39 rfl ⟨Nat.le_refl _, Nat.le_refl _⟩ (by decide) ?_
          cases hF
          exact ⟨rfl, rfl, hL⟩
        · replace hF := br_F hc hF
          refine x_iconst (n := 1) (b := 35) dX7_goesOn_34 (by decide) rfl ?_
          refine x_goto (tgt := 39) dX7_goesOn_35 (by decide) ?_
          refine x_zreturn dX7_goesOn_39 rfl ⟨Nat.le_refl _, Nat.le_refl _⟩ (by decide) ?_
          cases hF
          exact ⟨rfl, rfl, hL⟩
set_option maxHeartbeats 4000000 in
set_option maxRecDepth 100000 in
theorem u_X7_goesOn (E : xE) (d : Nat) (r : Int × Hp) : ∀ n : Nat, (∀ (h : Hp), Lay h → g_X7_goesOn n 0 [] h = some r → X E mX7_goesOn (d + 1) (0, 0) (0, 0) 0 [some (xr 7 0)] [] h (PoI r)) := by
  intro n
  induction n with
  | zero => exact fun _ _ hF => no_e (r := r) hF
  | succ n ih => exact fun h hL hF => t_X7_goesOn_0 E d (g_X7_goesOn n) r   h hL hF
theorem c_X7_goesOn (d : Nat) (h : Hp) (r : Int × Hp) (hL : Lay h) (hF : f_X7_goesOn  h = some r) : Sp mX7_goesOn (d + 1) (0, 0) [xr 7 0] h (PoI r) :=
  sp_of (by decide) rfl (Nat.le_of_ble_eq_true rfl) (ls := [some (xr 7 0)]) rfl (fun E _ => (u_X7_goesOn E d r FU)  h hL hF)
theorem dX7_isCrewName_0 : decode cX7_isCrewName 0 = .ok (.iconst 0, 1) := by decide +kernel
theorem dX7_isCrewName_1 : decode cX7_isCrewName 1 = .ok (.istore_n 2, 1) := by decide +kernel
theorem dX7_isCrewName_2 : decode cX7_isCrewName 2 = .ok (.iload_n 2, 1) := by decide +kernel
theorem dX7_isCrewName_3 : decode cX7_isCrewName 3 = .ok (.bipush 9, 2) := by decide +kernel
theorem dX7_isCrewName_5 : decode cX7_isCrewName 5 = .ok (.if_icmp .ge 74, 3) := by decide +kernel
theorem dX7_isCrewName_8 : decode cX7_isCrewName 8 = .ok (.iload_n 2, 1) := by decide +kernel
theorem dX7_isCrewName_9 : decode cX7_isCrewName 9 = .ok (.iconst 5, 1) := by decide +kernel
theorem dX7_isCrewName_10 : decode cX7_isCrewName 10 = .ok (.if_icmp .ge 22, 3) := by decide +kernel
theorem dX7_isCrewName_13 : decode cX7_isCrewName 13 = .ok (.iload_n 2, 1) := by decide +kernel
theorem dX7_isCrewName_14 : decode cX7_isCrewName 14 = .ok (.aload_n 0, 1) := by decide +kernel
theorem dX7_isCrewName_15 : decode cX7_isCrewName 15 = .ok (.getfield 76, 3) := by decide +kernel
theorem dX7_isCrewName_18 : decode cX7_isCrewName 18 = .ok (.getfield 254, 3) := by decide +kernel
theorem dX7_isCrewName_21 : decode cX7_isCrewName 21 = .ok (.if_icmp .ge 7, 3) := by decide +kernel
theorem dX7_isCrewName_24 : decode cX7_isCrewName 24 = .ok (.iconst 1, 1) := by decide +kernel
theorem dX7_isCrewName_25 : decode cX7_isCrewName 25 = .ok (.goto 25, 3) := by decide +kernel
theorem dX7_isCrewName_28 : decode cX7_isCrewName 28 = .ok (.iconst 0, 1) := by decide +kernel
theorem dX7_isCrewName_29 : decode cX7_isCrewName 29 = .ok (.goto 21, 3) := by decide +kernel
theorem dX7_isCrewName_32 : decode cX7_isCrewName 32 = .ok (.iload_n 2, 1) := by decide +kernel
theorem dX7_isCrewName_33 : decode cX7_isCrewName 33 = .ok (.iconst 5, 1) := by decide +kernel
theorem dX7_isCrewName_34 : decode cX7_isCrewName 34 = .ok (.isub, 1) := by decide +kernel
theorem dX7_isCrewName_35 : decode cX7_isCrewName 35 = .ok (.aload_n 0, 1) := by decide +kernel
theorem dX7_isCrewName_36 : decode cX7_isCrewName 36 = .ok (.getfield 76, 3) := by decide +kernel
theorem dX7_isCrewName_39 : decode cX7_isCrewName 39 = .ok (.getfield 251, 3) := by decide +kernel
theorem dX7_isCrewName_42 : decode cX7_isCrewName 42 = .ok (.if_icmp .ge 7, 3) := by decide +kernel
theorem dX7_isCrewName_45 : decode cX7_isCrewName 45 = .ok (.iconst 1, 1) := by decide +kernel
theorem dX7_isCrewName_46 : decode cX7_isCrewName 46 = .ok (.goto 4, 3) := by decide +kernel
theorem dX7_isCrewName_49 : decode cX7_isCrewName 49 = .ok (.iconst 0, 1) := by decide +kernel
theorem dX7_isCrewName_50 : decode cX7_isCrewName 50 = .ok (.istore_n 3, 1) := by decide +kernel
theorem dX7_isCrewName_51 : decode cX7_isCrewName 51 = .ok (.iload_n 3, 1) := by decide +kernel
theorem dX7_isCrewName_52 : decode cX7_isCrewName 52 = .ok (.ifCond .eq 21, 3) := by decide +kernel
theorem dX7_isCrewName_55 : decode cX7_isCrewName 55 = .ok (.aload_n 0, 1) := by decide +kernel
theorem dX7_isCrewName_56 : decode cX7_isCrewName 56 = .ok (.getfield 76, 3) := by decide +kernel
theorem dX7_isCrewName_59 : decode cX7_isCrewName 59 = .ok (.getfield 260, 3) := by decide +kernel
theorem dX7_isCrewName_62 : decode cX7_isCrewName 62 = .ok (.iload_n 2, 1) := by decide +kernel
theorem dX7_isCrewName_63 : decode cX7_isCrewName 63 = .ok (.aaload, 1) := by decide +kernel
theorem dX7_isCrewName_64 : decode cX7_isCrewName 64 = .ok (.getfield 282, 3) := by decide +kernel
theorem dX7_isCrewName_67 : decode cX7_isCrewName 67 = .ok (.iload_n 1, 1) := by decide +kernel
theorem dX7_isCrewName_68 : decode cX7_isCrewName 68 = .ok (.if_icmp .ne 5, 3) := by decide +kernel
theorem dX7_isCrewName_71 : decode cX7_isCrewName 71 = .ok (.iconst 1, 1) := by decide +kernel
theorem dX7_isCrewName_72 : decode cX7_isCrewName 72 = .ok (.ireturn, 1) := by decide +kernel
theorem dX7_isCrewName_73 : decode cX7_isCrewName 73 = .ok (.iinc 2 1, 3) := by decide +kernel
theorem dX7_isCrewName_76 : decode cX7_isCrewName 76 = .ok (.goto (-74), 3) := by decide +kernel
theorem dX7_isCrewName_79 : decode cX7_isCrewName 79 = .ok (.iconst 0, 1) := by decide +kernel
theorem dX7_isCrewName_80 : decode cX7_isCrewName 80 = .ok (.ireturn, 1) := by decide +kernel
noncomputable def b_X7_isCrewName_0 (rec : Rk) (x1 : Int) (h : Hp) : Option (Int × Hp) :=
  rec 1 [x1, 0] h
noncomputable def b_X7_isCrewName_1 (rec : Rk) (x1 x2 : Int) (h : Hp) : Option (Int × Hp) :=
  if 9 ≤ x2 then (
    some (0, h)
  ) else (
    if 5 ≤ x2 then (
      ck (-2147483648 ≤ x2 - 5 ∧ x2 - 5 < 2147483648) <|
      rf (gR h 7 0 1) 0 fun j1 =>
      if (gI h 0 j1 4) ≤ (x2 - 5) then (
        rec 2 [x1, x2, 0] h
      ) else (
        rec 2 [x1, x2, 1] h
      )
    ) else (
      rf (gR h 7 0 1) 0 fun j2 =>
      if (gI h 0 j2 3) ≤ x2 then (
        rec 2 [x1, x2, 0] h
      ) else (
        rec 2 [x1, x2, 1] h
      )
    )
  )
noncomputable def b_X7_isCrewName_2 (rec : Rk) (x1 x2 y0 : Int) (h : Hp) : Option (Int × Hp) :=
  if y0 = 0 then (
    rec 3 [x1, x2] h
  ) else (
    rf (gR h 7 0 1) 0 fun j1 =>
    ck (0 ≤ x2 ∧ x2 < 9) <|
    rf (gR h 20 j1 x2) 4 fun j2 =>
    if (gI h 4 j2 0) = x1 then (
      some (1, h)
    ) else (
      rec 3 [x1, x2] h
    )
  )
noncomputable def b_X7_isCrewName_3 (rec : Rk) (x1 x2 : Int) (h : Hp) : Option (Int × Hp) :=
  ck (-2147483648 ≤ x2 + 1 ∧ x2 + 1 < 2147483648) <|
  rec 1 [x1, x2 + 1] h
noncomputable def g_X7_isCrewName (n : Nat) : Rk := Nat.rec (motive := fun _ => Rk) (fun _ _ _ => none) (fun _ rec k l h => if k = 0 then b_X7_isCrewName_0 rec (l.getD 0 0) h else if k = 1 then b_X7_isCrewName_1 rec (l.getD 0 0) (l.getD 1 0) h else if k = 2 then b_X7_isCrewName_2 rec (l.getD 0 0) (l.getD 1 0) (l.getD 2 0) h else if k = 3 then b_X7_isCrewName_3 rec (l.getD 0 0) (l.getD 1 0) h else none) n
noncomputable def f_X7_isCrewName (x1 : Int) (h : Hp) : Option (Int × Hp) := g_X7_isCrewName FU 0 [x1] h
set_option maxHeartbeats 4000000 in
set_option maxRecDepth 100000 in
theorem t_X7_isCrewName_0 (E : xE) (d : Nat) (rec : Rk) (r : Int × Hp) (hr_2 : ∀ (x1 x2 : Int) (h : Hp), Lay h → rec 1 [x1, x2] h = some r → X E mX7_isCrewName (d + 1) (0, 0) (0, 0) 2 [some (xr 7 0), some (xi x1), some (xi x2), none] [] h (PoI r)) (x1 : Int) (h : Hp) (hL : Lay h) (hF : b_X7_isCrewName_0 rec x1 h = some r) : X E mX7_isCrewName (d + 1) (0, 0) (0, 0) 0 [some (xr 7 0), some (xi x1), none, none] [] h (PoI r) := by
  unfold b_X7_isCrewName_0 at hF
  refine x_iconst (n := 0) (b := 1) dX7_isCrewName_0 (by decide) rfl ?_
  refine x_istore_n (i := 2) (b := 2) (ls2 := [some (xr 7 0), some (xi x1), some (xi 0), none]) dX7_isCrewName_1 rfl (Nat.le_of_ble_eq_true rfl) rfl rfl ?_
  exact x_dp (ls2 := [some (xr 7 0), some (xi x1), some (xi 0), none]) ⟨rfl, rfl, rfl, trivial⟩ (hr_2 x1 0 h hL hF)
set_option maxHeartbeats 4000000 in
set_option maxRecDepth 100000 in
theorem t_X7_isCrewName_1 (E : xE) (d : Nat) (rec : Rk) (r : Int × Hp) (hr_50 : ∀ (x1 x2 y0 : Int) (h : Hp), Lay h → rec 2 [x1, x2, y0] h = some r → X E mX7_isCrewName (d + 1) (0, 0) (0, 0) 50 [some (xr 7 0), some (xi x1), some (xi x2), none] [xi y0] h (PoI r)) (x1 x2 : Int) (h : Hp) (hL : Lay h) (hF : b_X7_isCrewName_1 rec x1 x2 h = some r) : X E mX7_isCrewName (d + 1) (0, 0) (0, 0) 2 [some (xr 7 0), some (xi x1), some (xi x2), none] [] h (PoI r) := by
  unfold b_X7_isCrewName_1 at hF
  refine x_iload_n (i := 2) (b := 3) dX7_isCrewName_2 rfl rfl rfl ?_
  refine x_bipush (n := 9) (b := 5) dX7_isCrewName_3 (by decide) rfl ?_
  refine x_icmp_ge (tgt := 79) (b := 8) dX7_isCrewName_5 (by decide) rfl (fun hc => ?_) (fun hc => ?_)
  · replace hF := br_T hc hF
    refine x_iconst (n := 0) (b := 80) dX7_isCrewName_79 (by decide) rfl ?_
    refine x_zreturn dX7_isCrewName_80 rfl ⟨Nat.le_refl _, Nat.le_refl _⟩ (by decide) ?_
    cases hF
    exact ⟨rfl, rfl, hL⟩
  · replace hF := br_F hc hF
    refine x_iload_n (i := 2) (b := 9) dX7_isCrewName_8 rfl rfl rfl ?_
    refine x_iconst (n := 5) (b := 10) dX7_isCrewName_9 (by decide) rfl ?_
    refine x_icmp_ge (tgt := 32) (b := 13) dX7_isCrewName_10 (by decide) rfl (fun hc => ?_) (fun hc => ?_)
    · replace hF := br_T hc hF
      refine x_iload_n (i := 2) (b := 33) dX7_isCrewName_32 rfl rfl rfl ?_
      refine x_iconst (n := 5) (b := 34) dX7_isCrewName_33 (by decide) rfl ?_
      obtain ⟨hs, hF⟩ := ck_e hF
      refine x_isub (b := 35) dX7_isCrewName_34 hs rfl ?_
      refine x_aload_n (i := 0) (b := 36) dX7_isCrewName_35 rfl rfl rfl ?_
      obtain ⟨j1, e_j1, hF⟩ := rf_e hF
      refine x_getR (v := some (0, j1)) (b := 39) fk_X7_76 dX7_isCrewName_36 rfl e_j1 rfl ?_
      refine x_getI (v := gI h 0 j1 4) (b := 42) fk_X7_251 dX7_isCrewName_39 (by decide) rfl rfl ?_
      refine x_icmp_ge (tgt := 49) (b := 45) dX7_isCrewName_42 (by decide) rfl (fun hc => ?_) (fun hc => ?_)
      · replace hF := br_T hc hF
        refine x_iconst (n := 0) (b := 50) dX7_isCrewName_49 (by decide) rfl ?_
        exact x_dp (ls2 := [some (xr 7 0), some (xi x1), some (xi x2), none]) ⟨rfl, rfl, rfl, trivial⟩ (hr_50 x1 x2 0 h hL hF)
      · replace hF := br_F hc hF
        refine x_iconst (n := 1) (b := 46) dX7_isCrewName_45 (by decide) rfl ?_
        refine x_goto (tgt := 50) dX7_isCrewName_46 (by decide) ?_
        exact x_dp (ls2 := [some (xr 7 0), some (xi x1), some (xi x2), none]) ⟨rfl, rfl, rfl, trivial⟩ (hr_50 x1 x2 1 h hL hF)
    · replace hF := br_F hc hF
      refine x_iload_n (i := 2) (b := 14) dX7_isCrewName_13 rfl rfl rfl ?_
      refine x_aload_n (i := 0) (b := 15) dX7_isCrewName_14 rfl rfl rfl ?_
      obtain ⟨j2, e_j2, hF⟩ := rf_e hF
      refine x_getR (v := some (0, j2)) (b := 18) fk_X7_76 dX7_isCrewName_15 rfl e_j2 rfl ?_
      refine x_getI (v := gI h 0 j2 3) (b := 21) fk_X7_254 dX7_isCrewName_18 (by decide) rfl rfl ?_
      refine x_icmp_ge (tgt := 28) (b := 24) dX7_isCrewName_21 (by decide) rfl (fun hc => ?_) (fun hc => ?_)
      · replace hF := br_T hc hF
        refine x_iconst (n := 0) (b := 29) dX7_isCrewName_28 (by decide) rfl ?_
        refine x_goto (tgt := 50) dX7_isCrewName_29 (by decide) ?_
        exact x_dp (ls2 := [some (xr 7 0), some (xi x1), some (xi x2), none]) ⟨rfl, rfl, rfl, trivial⟩ (hr_50 x1 x2 0 h hL hF)
      · replace hF := br_F hc hF
        refine x_iconst (n := 1) (b := 25) dX7_isCrewName_24 (by decide) rfl ?_
        refine x_goto (tgt := 50) dX7_isCrewName_25 (by decide) ?_
        exact x_dp (ls2 := [some (xr 7 0), some (xi x1), some (xi x2), none]) ⟨rfl, rfl, rfl, trivial⟩ (hr_50 x1 x2 1 h hL hF)
set_option maxHeartbeats 4000000 in
set_option maxRecDepth 100000 in
theorem t_X7_isCrewName_2 (E : xE) (d : Nat) (rec : Rk) (r : Int × Hp) (hr_73 : ∀ (x1 x2 : Int) (h : Hp), Lay h → rec 3 [x1, x2] h = some r → X E mX7_isCrewName (d + 1) (0, 0) (0, 0) 73 [some (xr 7 0), some (xi x1), some (xi x2), none] [] h (PoI r)) (x1 x2 y0 : Int) (h : Hp) (hL : Lay h) (hF : b_X7_isCrewName_2 rec x1 x2 y0 h = some r) : X E mX7_isCrewName (d + 1) (0, 0) (0, 0) 50 [some (xr 7 0), some (xi x1), some (xi x2), none] [xi y0] h (PoI r) := by
  unfold b_X7_isCrewName_2 at hF
  refine x_istore_n (i := 3) (b := 51) (ls2 := [some (xr 7 0), some (xi x1), some (xi x2), some (xi y0)]) dX7_isCrewName_50 rfl (Nat.le_of_ble_eq_true rfl) rfl rfl ?_
  refine x_iload_n (i := 3) (b := 52) dX7_isCrewName_51 rfl rfl rfl ?_
  refine x_if_eq (tgt := 73) (b := 55) dX7_isCrewName_52 (by decide) rfl (fun hc => ?_) (fun hc => ?_)
  · replace hF := br_T hc hF
    exact x_dp (ls2 := [some (xr 7 0), some (xi x1), some (xi x2), none]) ⟨rfl, rfl, rfl, trivial⟩ (hr_73 x1 x2 h hL hF)
  · replace hF := br_F hc hF
    refine x_aload_n (i := 0) (b := 56) dX7_isCrewName_55 rfl rfl rfl ?_
    obtain ⟨j1, e_j1, hF⟩ := rf_e hF
    refine x_getR (v := some (0, j1)) (b := 59) fk_X7_76 dX7_isCrewName_56 rfl e_j1 rfl ?_
    refine x_getL (j := j1) (t := (20, 0, true)) (b := 62) fk_X7_260 dX7_isCrewName_59 rfl hL rfl rfl rfl ?_
    refine x_iload_n (i := 2) (b := 63) dX7_isCrewName_62 rfl rfl rfl ?_
    obtain ⟨hs, hF⟩ := ck_e hF
    obtain ⟨j2, e_j2, hF⟩ := rf_e hF
    refine x_aaldM (v := some (4, j2)) (b := 64) ak_20 dX7_isCrewName_63 hs e_j2 rfl ?_
    refine x_getI (v := gI h 4 j2 0) (b := 67) fk_X7_282 dX7_isCrewName_64 (by decide) rfl rfl ?_
    refine x_iload_n (i := 1) (b := 68) dX7_isCrewName_67 rfl rfl rfl ?_
    refine x_icmp_ne (tgt := 73) (b := 71) dX7_isCrewName_68 (by decide) rfl (fun hc => ?_) (fun hc => ?_)
    · replace hF := br_F hc hF
      exact x_dp (ls2 := [some (xr 7 0), some (xi x1), some (xi x2), none]) ⟨rfl, rfl, rfl, trivial⟩ (hr_73 x1 x2 h hL hF)
    · replace hF := br_T hc hF
      refine x_iconst (n := 1) (b := 72) dX7_isCrewName_71 (by decide) rfl ?_
      refine x_zreturn dX7_isCrewName_72 rfl ⟨Nat.le_refl _, Nat.le_refl _⟩ (by decide) ?_
      cases hF
      exact ⟨rfl, rfl, hL⟩
set_option maxHeartbeats 4000000 in
set_option maxRecDepth 100000 in
theorem t_X7_isCrewName_3 (E : xE) (d : Nat) (rec : Rk) (r : Int × Hp) (hr_2 : ∀ (x1 x2 : Int) (h : Hp), Lay h → rec 1 [x1, x2] h = some r → X E mX7_isCrewName (d + 1) (0, 0) (0, 0) 2 [some (xr 7 0), some (xi x1), some (xi x2), none] [] h (PoI r)) (x1 x2 : Int) (h : Hp) (hL : Lay h) (hF : b_X7_isCrewName_3 rec x1 x2 h = some r) : X E mX7_isCrewName (d + 1) (0, 0) (0, 0) 73 [some (xr 7 0), some (xi x1), some (xi x2), none] [] h (PoI r) := by
  unfold b_X7_isCrewName_3 at hF
  obtain ⟨hs, hF⟩ := ck_e hF
  refine x_iinc (i := 2) (b := 76) (ls2 := [some (xr 7 0), some (xi x1), some (xi (x2 + 1)), none]) dX7_isCrewName_73 rfl (Nat.le_of_ble_eq_true rfl) hs rfl rfl ?_
  refine x_goto (tgt := 2) dX7_isCrewName_76 (by decide) ?_
  exact x_dp (ls2 := [some (xr 7 0), some (xi x1), some (xi (x2 + 1)), none]) ⟨rfl, rfl, rfl, trivial⟩ (hr_2 x1 (x2 + 1) h hL hF)
set_option maxHeartbeats 4000000 in
set_option maxRecDepth 100000 in
theorem u_X7_isCrewName (E : xE) (d : Nat) (r : Int × Hp) : ∀ n : Nat, (∀ (x1 : Int) (h : Hp), Lay h → g_X7_isCrewName n 0 [x1] h = some r → X E mX7_isCrewName (d + 1) (0, 0) (0, 0) 0 [some (xr 7 0), some (xi x1), none, none] [] h (PoI r)) ∧ (∀ (x1 x2 : Int) (h : Hp), Lay h → g_X7_isCrewName n 1 [x1, x2] h = some r → X E mX7_isCrewName (d + 1) (0, 0) (0, 0) 2 [some (xr 7 0), some (xi x1), some (xi x2), none] [] h (PoI r)) ∧ (∀ (x1 x2 y0 : Int) (h : Hp), Lay h → g_X7_isCrewName n 2 [x1, x2, y0] h = some r → X E mX7_isCrewName (d + 1) (0, 0) (0, 0) 50 [some (xr 7 0), some (xi x1), some (xi x2), none] [xi y0] h (PoI r)) ∧ (∀ (x1 x2 : Int) (h : Hp), Lay h → g_X7_isCrewName n 3 [x1, x2] h = some r → X E mX7_isCrewName (d + 1) (0, 0) (0, 0) 73 [some (xr 7 0), some (xi x1), some (xi x2), none] [] h (PoI r)) := by
  intro n
  induction n with
  | zero => exact ⟨fun _ _ _ hF => no_e (r := r) hF, fun _ _ _ _ hF => no_e (r := r) hF, fun _ _ _ _ _ hF => no_e (r := r) hF, fun _ _ _ _ hF => no_e (r := r) hF⟩
  | succ n ih => exact ⟨fun x1 h hL hF => t_X7_isCrewName_0 E d (g_X7_isCrewName n) r ih.2.1 x1 h hL hF, fun x1 x2 h hL hF => t_X7_isCrewName_1 E d (g_X7_isCrewName n) r ih.2.2.1 x1 x2 h hL hF, fun x1 x2 y0 h hL hF => t_X7_isCrewName_2 E d (g_X7_isCrewName n) r ih.2.2.2 x1 x2 y0 h hL hF, fun x1 x2 h hL hF => t_X7_isCrewName_3 E d (g_X7_isCrewName n) r ih.2.1 x1 x2 h hL hF⟩
theorem c_X7_isCrewName (d : Nat) (x1 : Int) (h : Hp) (r : Int × Hp) (hL : Lay h) (hF : f_X7_isCrewName x1 h = some r) : Sp mX7_isCrewName (d + 1) (0, 0) [xr 7 0, xi x1] h (PoI r) :=
  sp_of (by decide) rfl (Nat.le_of_ble_eq_true rfl) (ls := [some (xr 7 0), some (xi x1), none, none]) rfl (fun E _ => (u_X7_isCrewName E d r FU).1 x1 h hL hF)
theorem dX7_isTold_0 : decode cX7_isTold 0 = .ok (.aload_n 0, 1) := by decide +kernel
theorem dX7_isTold_1 : decode cX7_isTold 1 = .ok (.getfield 47, 3) := by decide +kernel
theorem dX7_isTold_4 : decode cX7_isTold 4 = .ok (.iload_n 1, 1) := by decide +kernel
theorem dX7_isTold_5 : decode cX7_isTold 5 = .ok (.ishr, 1) := by decide +kernel
theorem dX7_isTold_6 : decode cX7_isTold 6 = .ok (.iconst 1, 1) := by decide +kernel
theorem dX7_isTold_7 : decode cX7_isTold 7 = .ok (.iand, 1) := by decide +kernel
theorem dX7_isTold_8 : decode cX7_isTold 8 = .ok (.iconst 1, 1) := by decide +kernel
theorem dX7_isTold_9 : decode cX7_isTold 9 = .ok (.if_icmp .ne 7, 3) := by decide +kernel
theorem dX7_isTold_12 : decode cX7_isTold 12 = .ok (.iconst 1, 1) := by decide +kernel
theorem dX7_isTold_13 : decode cX7_isTold 13 = .ok (.goto 4, 3) := by decide +kernel
theorem dX7_isTold_16 : decode cX7_isTold 16 = .ok (.iconst 0, 1) := by decide +kernel
theorem dX7_isTold_17 : decode cX7_isTold 17 = .ok (.ireturn, 1) := by decide +kernel
noncomputable def b_X7_isTold_0 (rec : Rk) (x1 : Int) (h : Hp) : Option (Int × Hp) :=
  if (band (bshr (gI h 7 0 13) x1) 1) = 1 then (
    some (1, h)
  ) else (
    some (0, h)
  )
noncomputable def g_X7_isTold (n : Nat) : Rk := Nat.rec (motive := fun _ => Rk) (fun _ _ _ => none) (fun _ rec k l h => if k = 0 then b_X7_isTold_0 rec (l.getD 0 0) h else none) n
noncomputable def f_X7_isTold (x1 : Int) (h : Hp) : Option (Int × Hp) := g_X7_isTold FU 0 [x1] h
set_option maxHeartbeats 4000000 in
set_option maxRecDepth 100000 in
theorem t_X7_isTold_0 (E : xE) (d : Nat) (rec : Rk) (r : Int × Hp) (x1 : Int) (h : Hp) (hL : Lay h) (hF : b_X7_isTold_0 rec x1 h = some r) : X E mX7_isTold (d + 1) (0, 0) (0, 0) 0 [some (xr 7 0), some (xi x1)] [] h (PoI r) := by
  unfold b_X7_isTold_0 at hF
  refine x_aload_n (i := 0) (b := 1) dX7_isTold_0 rfl rfl rfl ?_
  refine x_getI (v := gI h 7 0 13) (b := 4) fk_X7_47 dX7_isTold_1 (by decide) rfl rfl ?_
  refine x_iload_n (i := 1) (b := 5) dX7_isTold_4 rfl rfl rfl ?_
  refine x_ishr (b := 6) dX7_isTold_5 rfl ?_
  refine x_iconst (n := 1) (b := 7) dX7_isTold_6 (by decide) rfl ?_
  refine x_iand (b := 8) dX7_isTold_7 rfl ?_
  refine x_iconst (n := 1) (b := 9) dX7_isTold_8 (by decide) rfl ?_
  refine x_icmp_ne (tgt := 16) (b := 12) dX7_isTold_9 (by decide) rfl (fun hc => ?_) (fun hc => ?_)
  · replace hF := br_F hc hF
    refine x_iconst (n := 0) (b := 17) dX7_isTold_16 (by decide) rfl ?_
    refine x_zreturn dX7_isTold_17 rfl ⟨Nat.le_refl _, Nat.le_refl _⟩ (by decide) ?_
    cases hF
    exact ⟨rfl, rfl, hL⟩
  · replace hF := br_T hc hF
    refine x_iconst (n := 1) (b := 13) dX7_isTold_12 (by decide) rfl ?_
    refine x_goto (tgt := 17) dX7_isTold_13 (by decide) ?_
    refine x_zreturn dX7_isTold_17 rfl ⟨Nat.le_refl _, Nat.le_refl _⟩ (by decide) ?_
    cases hF
    exact ⟨rfl, rfl, hL⟩
set_option maxHeartbeats 4000000 in
set_option maxRecDepth 100000 in
theorem u_X7_isTold (E : xE) (d : Nat) (r : Int × Hp) : ∀ n : Nat, (∀ (x1 : Int) (h : Hp), Lay h → g_X7_isTold n 0 [x1] h = some r → X E mX7_isTold (d + 1) (0, 0) (0, 0) 0 [some (xr 7 0), some (xi x1)] [] h (PoI r)) := by
  intro n
  induction n with
  | zero => exact fun _ _ _ hF => no_e (r := r) hF
  | succ n ih => exact fun x1 h hL hF => t_X7_isTold_0 E d (g_X7_isTold n) r  x1 h hL hF
theorem c_X7_isTold (d : Nat) (x1 : Int) (h : Hp) (r : Int × Hp) (hL : Lay h) (hF : f_X7_isTold x1 h = some r) : Sp mX7_isTold (d + 1) (0, 0) [xr 7 0, xi x1] h (PoI r) :=
  sp_of (by decide) rfl (Nat.le_of_ble_eq_true rfl) (ls := [some (xr 7 0), some (xi x1)]) rfl (fun E _ => (u_X7_isTold E d r FU) x1 h hL hF)
theorem dX7_rankOf_0 : decode cX7_rankOf 0 = .ok (.iload_n 0, 1) := by decide +kernel
theorem dX7_rankOf_1 : decode cX7_rankOf 1 = .ok (.ifCond .lt 19, 3) := by decide +kernel
theorem dX7_rankOf_4 : decode cX7_rankOf 4 = .ok (.iload_n 0, 1) := by decide +kernel
theorem dX7_rankOf_5 : decode cX7_rankOf 5 = .ok (.getstatic 356, 3) := by decide +kernel
theorem dX7_rankOf_8 : decode cX7_rankOf 8 = .ok (.arraylength, 1) := by decide +kernel
theorem dX7_rankOf_9 : decode cX7_rankOf 9 = .ok (.if_icmp .ge 11, 3) := by decide +kernel
theorem dX7_rankOf_12 : decode cX7_rankOf 12 = .ok (.getstatic 356, 3) := by decide +kernel
theorem dX7_rankOf_15 : decode cX7_rankOf 15 = .ok (.iload_n 0, 1) := by decide +kernel
theorem dX7_rankOf_16 : decode cX7_rankOf 16 = .ok (.iaload, 1) := by decide +kernel
theorem dX7_rankOf_17 : decode cX7_rankOf 17 = .ok (.goto 4, 3) := by decide +kernel
theorem dX7_rankOf_20 : decode cX7_rankOf 20 = .ok (.iconst 0, 1) := by decide +kernel
theorem dX7_rankOf_21 : decode cX7_rankOf 21 = .ok (.ireturn, 1) := by decide +kernel
noncomputable def b_X7_rankOf_0 (rec : Rk) (x0 : Int) (h : Hp) : Option (Int × Hp) :=
  if x0 < 0 then (
    some (0, h)
  ) else (
    if 16 ≤ x0 then (
      some (0, h)
    ) else (
      ck (0 ≤ x0 ∧ x0 < 16) <|
      some (xRnk.getD (x0).toNat 0, h)
    )
  )
noncomputable def g_X7_rankOf (n : Nat) : Rk := Nat.rec (motive := fun _ => Rk) (fun _ _ _ => none) (fun _ rec k l h => if k = 0 then b_X7_rankOf_0 rec (l.getD 0 0) h else none) n
noncomputable def f_X7_rankOf (x0 : Int) (h : Hp) : Option (Int × Hp) := g_X7_rankOf FU 0 [x0] h
set_option maxHeartbeats 4000000 in
set_option maxRecDepth 100000 in
theorem t_X7_rankOf_0 (E : xE) (d : Nat) (rec : Rk) (r : Int × Hp) (x0 : Int) (h : Hp) (hL : Lay h) (hF : b_X7_rankOf_0 rec x0 h = some r) : X E mX7_rankOf (d + 1) (0, 0) (0, 0) 0 [some (xi x0)] [] h (PoI r) := by
  unfold b_X7_rankOf_0 at hF
  refine x_iload_n (i := 0) (b := 1) dX7_rankOf_0 rfl rfl rfl ?_
  refine x_if_lt (tgt := 20) (b := 4) dX7_rankOf_1 (by decide) rfl (fun hc => ?_) (fun hc => ?_)
  · replace hF := br_T hc hF
    refine x_iconst (n := 0) (b := 21) dX7_rankOf_20 (by decide) rfl ?_
    refine x_ireturn dX7_rankOf_21 rfl ⟨Nat.le_refl _, Nat.le_refl _⟩ ?_
    cases hF
    exact ⟨rfl, rfl, hL⟩
  · replace hF := br_F hc hF
    refine x_iload_n (i := 0) (b := 5) dX7_rankOf_4 rfl rfl rfl ?_
    refine x_gsRnk (b := 8) rfl dX7_rankOf_5 kw_1011 rfl ?_
    refine x_alenR (v := 16) (b := 9) dX7_rankOf_8 rfl rfl ?_
    refine x_icmp_ge (tgt := 20) (b := 12) dX7_rankOf_9 (by decide) rfl (fun hc => ?_) (fun hc => ?_)
    · replace hF := br_T hc hF
      refine x_iconst (n := 0) (b := 21) dX7_rankOf_20 (by decide) rfl ?_
      refine x_ireturn dX7_rankOf_21 rfl ⟨Nat.le_refl _, Nat.le_refl _⟩ ?_
      cases hF
      exact ⟨rfl, rfl, hL⟩
    · replace hF := br_F hc hF
      refine x_gsRnk (b := 15) rfl dX7_rankOf_12 kw_1011 rfl ?_
      refine x_iload_n (i := 0) (b := 16) dX7_rankOf_15 rfl rfl rfl ?_
      obtain ⟨hs, hF⟩ := ck_e hF
      refine x_ialdR (v := xRnk.getD (x0).toNat 0) (b := 17) dX7_rankOf_16 hs rfl rfl ?_
      refine x_goto (tgt := 21) dX7_rankOf_17 (by decide) ?_
      refine x_ireturn dX7_rankOf_21 rfl ⟨Nat.le_refl _, Nat.le_refl _⟩ ?_
      cases hF
      exact ⟨rfl, rfl, hL⟩
set_option maxHeartbeats 4000000 in
set_option maxRecDepth 100000 in
theorem u_X7_rankOf (E : xE) (d : Nat) (r : Int × Hp) : ∀ n : Nat, (∀ (x0 : Int) (h : Hp), Lay h → g_X7_rankOf n 0 [x0] h = some r → X E mX7_rankOf (d + 1) (0, 0) (0, 0) 0 [some (xi x0)] [] h (PoI r)) := by
  intro n
  induction n with
  | zero => exact fun _ _ _ hF => no_e (r := r) hF
  | succ n ih => exact fun x0 h hL hF => t_X7_rankOf_0 E d (g_X7_rankOf n) r  x0 h hL hF
theorem c_X7_rankOf (d : Nat) (x0 : Int) (h : Hp) (r : Int × Hp) (hL : Lay h) (hF : f_X7_rankOf x0 h = some r) : Sp mX7_rankOf (d + 1) (0, 0) [xi x0] h (PoI r) :=
  sp_of (by decide) rfl (Nat.le_of_ble_eq_true rfl) (ls := [some (xi x0)]) rfl (fun E _ => (u_X7_rankOf E d r FU) x0 h hL hF)
theorem dX7_rankOnTop_0 : decode cX7_rankOnTop 0 = .ok (.aload_n 0, 1) := by decide +kernel
theorem dX7_rankOnTop_1 : decode cX7_rankOnTop 1 = .ok (.getfield 56, 3) := by decide +kernel
theorem dX7_rankOnTop_4 : decode cX7_rankOnTop 4 = .ok (.ifCond .le 32, 3) := by decide +kernel
theorem dX7_rankOnTop_7 : decode cX7_rankOnTop 7 = .ok (.aload_n 0, 1) := by decide +kernel
theorem dX7_rankOnTop_8 : decode cX7_rankOnTop 8 = .ok (.getfield 56, 3) := by decide +kernel
theorem dX7_rankOnTop_11 : decode cX7_rankOnTop 11 = .ok (.aload_n 0, 1) := by decide +kernel
theorem dX7_rankOnTop_12 : decode cX7_rankOnTop 12 = .ok (.getfield 52, 3) := by decide +kernel
theorem dX7_rankOnTop_15 : decode cX7_rankOnTop 15 = .ok (.arraylength, 1) := by decide +kernel
theorem dX7_rankOnTop_16 : decode cX7_rankOnTop 16 = .ok (.if_icmp .gt 20, 3) := by decide +kernel
theorem dX7_rankOnTop_19 : decode cX7_rankOnTop 19 = .ok (.aload_n 0, 1) := by decide +kernel
theorem dX7_rankOnTop_20 : decode cX7_rankOnTop 20 = .ok (.getfield 52, 3) := by decide +kernel
theorem dX7_rankOnTop_23 : decode cX7_rankOnTop 23 = .ok (.aload_n 0, 1) := by decide +kernel
theorem dX7_rankOnTop_24 : decode cX7_rankOnTop 24 = .ok (.getfield 56, 3) := by decide +kernel
theorem dX7_rankOnTop_27 : decode cX7_rankOnTop 27 = .ok (.iconst 1, 1) := by decide +kernel
theorem dX7_rankOnTop_28 : decode cX7_rankOnTop 28 = .ok (.isub, 1) := by decide +kernel
theorem dX7_rankOnTop_29 : decode cX7_rankOnTop 29 = .ok (.iaload, 1) := by decide +kernel
theorem dX7_rankOnTop_30 : decode cX7_rankOnTop 30 = .ok (.invokestatic 353, 3) := by decide +kernel
theorem dX7_rankOnTop_33 : decode cX7_rankOnTop 33 = .ok (.goto 4, 3) := by decide +kernel
theorem dX7_rankOnTop_36 : decode cX7_rankOnTop 36 = .ok (.iconst 0, 1) := by decide +kernel
theorem dX7_rankOnTop_37 : decode cX7_rankOnTop 37 = .ok (.ireturn, 1) := by decide +kernel
noncomputable def b_X7_rankOnTop_0 (rec : Rk) (h : Hp) : Option (Int × Hp) :=
  if (gI h 7 0 15) ≤ 0 then (
    some (0, h)
  ) else (
    if 72 < (gI h 7 0 15) then (
      some (0, h)
    ) else (
      ck (-2147483648 ≤ (gI h 7 0 15) - 1 ∧ (gI h 7 0 15) - 1 < 2147483648) <|
      ck (0 ≤ ((gI h 7 0 15) - 1) ∧ ((gI h 7 0 15) - 1) < 72) <|
      bd (f_X7_rankOf (gI h 46 0 ((gI h 7 0 15) - 1)) h) fun v1 h2 =>
      some (v1, h2)
    )
  )
noncomputable def g_X7_rankOnTop (n : Nat) : Rk := Nat.rec (motive := fun _ => Rk) (fun _ _ _ => none) (fun _ rec k l h => if k = 0 then b_X7_rankOnTop_0 rec  h else none) n
noncomputable def f_X7_rankOnTop (h : Hp) : Option (Int × Hp) := g_X7_rankOnTop FU 0 [] h
set_option maxHeartbeats 4000000 in
set_option maxRecDepth 100000 in
theorem t_X7_rankOnTop_0 (E : xE) (d : Nat) (rec : Rk) (r : Int × Hp) (h : Hp) (hL : Lay h) (hF : b_X7_rankOnTop_0 rec  h = some r) : X E mX7_rankOnTop (d + 2) (0, 0) (0, 0) 0 [some (xr 7 0)] [] h (PoI r) := by
  unfold b_X7_rankOnTop_0 at hF
  refine x_aload_n (i := 0) (b := 1) dX7_rankOnTop_0 rfl rfl rfl ?_
  refine x_getI (v := gI h 7 0 15) (b := 4) fk_X7_56 dX7_rankOnTop_1 (by decide) rfl rfl ?_
  refine x_if_le (tgt := 36) (b := 7) dX7_rankOnTop_4 (by decide) rfl (fun hc => ?_) (fun hc => ?_)
  · replace hF := br_T hc hF
    refine x_iconst (n := 0) (b := 37) dX7_rankOnTop_36 (by decide) rfl ?_
    refine x_ireturn dX7_rankOnTop_37 rfl ⟨Nat.le_refl _, Nat.le_refl _⟩ ?_
    cases hF
    exact ⟨rfl, rfl, hL⟩
  · replace hF := br_F hc hF
    refine x_aload_n (i := 0) (b := 8) dX7_rankOnTop_7 rfl rfl rfl ?_
    refine x_getI (v := gI h 7 0 15) (b := 11) fk_X7_56 dX7_rankOnTop_8 (by decide) rfl rfl ?_
    refine x_aload_n (i := 0) (b := 12) dX7_rankOnTop_11 rfl rfl rfl ?_
    refine x_getL (j := 0) (t := (46, 0, true)) (b := 15) fk_X7_52 dX7_rankOnTop_12 rfl hL rfl rfl rfl ?_
    refine x_alen (kind := 0) (ct := 0) (b := 16) ak_46 (by decide) dX7_rankOnTop_15 rfl ?_
    refine x_eq (y := 72) rfl ?_
    refine x_icmp_gt (tgt := 36) (b := 19) dX7_rankOnTop_16 (by decide) rfl (fun hc => ?_) (fun hc => ?_)
    · replace hF := br_T hc hF
      refine x_iconst (n := 0) (b := 37) dX7_rankOnTop_36 (by decide) rfl ?_
      refine x_ireturn dX7_rankOnTop_37 rfl ⟨Nat.le_refl _, Nat.le_refl _⟩ ?_
      cases hF
      exact ⟨rfl, rfl, hL⟩
    · replace hF := br_F hc hF
      refine x_aload_n (i := 0) (b := 20) dX7_rankOnTop_19 rfl rfl rfl ?_
      refine x_getL (j := 0) (t := (46, 0, true)) (b := 23) fk_X7_52 dX7_rankOnTop_20 rfl hL rfl rfl rfl ?_
      refine x_aload_n (i := 0) (b := 24) dX7_rankOnTop_23 rfl rfl rfl ?_
      refine x_getI (v := gI h 7 0 15) (b := 27) fk_X7_56 dX7_rankOnTop_24 (by decide) rfl rfl ?_
      refine x_iconst (n := 1) (b := 28) dX7_rankOnTop_27 (by decide) rfl ?_
      obtain ⟨hs, hF⟩ := ck_e hF
      refine x_isub (b := 29) dX7_rankOnTop_28 hs rfl ?_
      obtain ⟨hs, hF⟩ := ck_e hF
      refine x_iald (v := gI h 46 0 ((gI h 7 0 15) - 1)) (b := 30) ak_46 dX7_rankOnTop_29 hs rfl rfl ?_
      obtain ⟨v1, h2, hq, hF⟩ := bd_e hF
      refine x_callS (as := [xi (gI h 46 0 ((gI h 7 0 15) - 1))]) (rest := []) (b := 33) (c_X7_rankOf d (gI h 46 0 ((gI h 7 0 15) - 1)) h _ hL hq) dX7_rankOnTop_30 cw_X7_353 rfl rfl (Nat.le_of_ble_eq_true rfl) ⟨Nat.le_refl _, Nat.le_refl _⟩ rfl (fun rv hh hp _ => ?_)
      obtain ⟨rfl, rfl, hL⟩ := hp
      refine x_goto (tgt := 37) dX7_rankOnTop_33 (by decide) ?_
      refine x_ireturn dX7_rankOnTop_37 rfl ⟨Nat.le_refl _, Nat.le_refl _⟩ ?_
      cases hF
      exact ⟨rfl, rfl, hL⟩
set_option maxHeartbeats 4000000 in
set_option maxRecDepth 100000 in
theorem u_X7_rankOnTop (E : xE) (d : Nat) (r : Int × Hp) : ∀ n : Nat, (∀ (h : Hp), Lay h → g_X7_rankOnTop n 0 [] h = some r → X E mX7_rankOnTop (d + 2) (0, 0) (0, 0) 0 [some (xr 7 0)] [] h (PoI r)) := by
  intro n
  induction n with
  | zero => exact fun _ _ hF => no_e (r := r) hF
  | succ n ih => exact fun h hL hF => t_X7_rankOnTop_0 E d (g_X7_rankOnTop n) r   h hL hF
theorem c_X7_rankOnTop (d : Nat) (h : Hp) (r : Int × Hp) (hL : Lay h) (hF : f_X7_rankOnTop  h = some r) : Sp mX7_rankOnTop (d + 2) (0, 0) [xr 7 0] h (PoI r) :=
  sp_of (by decide) rfl (Nat.le_of_ble_eq_true rfl) (ls := [some (xr 7 0)]) rfl (fun E _ => (u_X7_rankOnTop E d r FU)  h hL hF)
theorem dX7_release_0 : decode cX7_release 0 = .ok (.aload_n 0, 1) := by decide +kernel
theorem dX7_release_1 : decode cX7_release 1 = .ok (.getfield 56, 3) := by decide +kernel
theorem dX7_release_4 : decode cX7_release 4 = .ok (.ifCond .le 66, 3) := by decide +kernel
theorem dX7_release_7 : decode cX7_release 7 = .ok (.aload_n 0, 1) := by decide +kernel
theorem dX7_release_8 : decode cX7_release 8 = .ok (.getfield 56, 3) := by decide +kernel
theorem dX7_release_11 : decode cX7_release 11 = .ok (.aload_n 0, 1) := by decide +kernel
theorem dX7_release_12 : decode cX7_release 12 = .ok (.getfield 52, 3) := by decide +kernel
theorem dX7_release_15 : decode cX7_release 15 = .ok (.arraylength, 1) := by decide +kernel
theorem dX7_release_16 : decode cX7_release 16 = .ok (.if_icmp .gt 54, 3) := by decide +kernel
theorem dX7_release_19 : decode cX7_release 19 = .ok (.aload_n 0, 1) := by decide +kernel
theorem dX7_release_20 : decode cX7_release 20 = .ok (.getfield 52, 3) := by decide +kernel
theorem dX7_release_23 : decode cX7_release 23 = .ok (.aload_n 0, 1) := by decide +kernel
theorem dX7_release_24 : decode cX7_release 24 = .ok (.getfield 56, 3) := by decide +kernel
theorem dX7_release_27 : decode cX7_release 27 = .ok (.iconst 1, 1) := by decide +kernel
theorem dX7_release_28 : decode cX7_release 28 = .ok (.isub, 1) := by decide +kernel
theorem dX7_release_29 : decode cX7_release 29 = .ok (.iaload, 1) := by decide +kernel
theorem dX7_release_30 : decode cX7_release 30 = .ok (.invokestatic 353, 3) := by decide +kernel
theorem dX7_release_33 : decode cX7_release 33 = .ok (.iload_n 1, 1) := by decide +kernel
theorem dX7_release_34 : decode cX7_release 34 = .ok (.if_icmp .lt 36, 3) := by decide +kernel
theorem dX7_release_37 : decode cX7_release 37 = .ok (.aload_n 0, 1) := by decide +kernel
theorem dX7_release_38 : decode cX7_release 38 = .ok (.dup, 1) := by decide +kernel
theorem dX7_release_39 : decode cX7_release 39 = .ok (.getfield 56, 3) := by decide +kernel
theorem dX7_release_42 : decode cX7_release 42 = .ok (.iconst 1, 1) := by decide +kernel
theorem dX7_release_43 : decode cX7_release 43 = .ok (.isub, 1) := by decide +kernel
theorem dX7_release_44 : decode cX7_release 44 = .ok (.putfield 56, 3) := by decide +kernel
theorem dX7_release_47 : decode cX7_release 47 = .ok (.aload_n 0, 1) := by decide +kernel
theorem dX7_release_48 : decode cX7_release 48 = .ok (.getfield 76, 3) := by decide +kernel
theorem dX7_release_51 : decode cX7_release 51 = .ok (.getfield 313, 3) := by decide +kernel
theorem dX7_release_54 : decode cX7_release 54 = .ok (.aload_n 0, 1) := by decide +kernel
theorem dX7_release_55 : decode cX7_release 55 = .ok (.getfield 52, 3) := by decide +kernel
theorem dX7_release_58 : decode cX7_release 58 = .ok (.aload_n 0, 1) := by decide +kernel
theorem dX7_release_59 : decode cX7_release 59 = .ok (.getfield 56, 3) := by decide +kernel
theorem dX7_release_62 : decode cX7_release 62 = .ok (.iaload, 1) := by decide +kernel
theorem dX7_release_63 : decode cX7_release 63 = .ok (.iconst 0, 1) := by decide +kernel
theorem dX7_release_64 : decode cX7_release 64 = .ok (.invokevirtual 349, 3) := by decide +kernel
theorem dX7_release_67 : decode cX7_release 67 = .ok (.goto (-67), 3) := by decide +kernel
theorem dX7_release_70 : decode cX7_release 70 = .ok (.return_, 1) := by decide +kernel
noncomputable def b_X7_release_0 (rec : Rk) (x1 : Int) (h : Hp) : Option (Int × Hp) :=
  if (gI h 7 0 15) ≤ 0 then (
    some (0, h)
  ) else (
    if 72 < (gI h 7 0 15) then (
      some (0, h)
    ) else (
      ck (-2147483648 ≤ (gI h 7 0 15) - 1 ∧ (gI h 7 0 15) - 1 < 2147483648) <|
      ck (0 ≤ ((gI h 7 0 15) - 1) ∧ ((gI h 7 0 15) - 1) < 72) <|
      bd (f_X7_rankOf (gI h 46 0 ((gI h 7 0 15) - 1)) h) fun v1 h2 =>
      if v1 < x1 then (
        some (0, h2)
      ) else (
        ck (-2147483648 ≤ (gI h2 7 0 15) - 1 ∧ (gI h2 7 0 15) - 1 < 2147483648) <|
        lt (sI h2 7 0 15 ((gI h2 7 0 15) - 1)) fun h3 =>
        rf (gR h3 7 0 1) 0 fun j4 =>
        ck (0 ≤ (gI h3 7 0 15) ∧ (gI h3 7 0 15) < 72) <|
        bd (f_X1_add j4 (gI h3 46 0 (gI h3 7 0 15)) 0 h3) fun v5 h6 =>
        rec 0 [x1] h6
      )
    )
  )
noncomputable def g_X7_release (n : Nat) : Rk := Nat.rec (motive := fun _ => Rk) (fun _ _ _ => none) (fun _ rec k l h => if k = 0 then b_X7_release_0 rec (l.getD 0 0) h else none) n
noncomputable def f_X7_release (x1 : Int) (h : Hp) : Option (Int × Hp) := g_X7_release FU 0 [x1] h
set_option maxHeartbeats 4000000 in
set_option maxRecDepth 100000 in
theorem t_X7_release_0 (E : xE) (d : Nat) (rec : Rk) (r : Int × Hp) (hr_0 : ∀ (x1 : Int) (h : Hp), Lay h → rec 0 [x1] h = some r → X E mX7_release (d + 2) (0, 0) (0, 0) 0 [some (xr 7 0), some (xi x1)] [] h (PoV r)) (x1 : Int) (h : Hp) (hL : Lay h) (hF : b_X7_release_0 rec x1 h = some r) : X E mX7_release (d + 2) (0, 0) (0, 0) 0 [some (xr 7 0), some (xi x1)] [] h (PoV r) := by
  unfold b_X7_release_0 at hF
  refine x_aload_n (i := 0) (b := 1) dX7_release_0 rfl rfl rfl ?_
  refine x_getI (v := gI h 7 0 15) (b := 4) fk_X7_56 dX7_release_1 (by decide) rfl rfl ?_
  refine x_if_le (tgt := 70) (b := 7) dX7_release_4 (by decide) rfl (fun hc => ?_) (fun hc => ?_)
  · replace hF := br_T hc hF
    refine x_return dX7_release_70 rfl ⟨Nat.le_refl _, Nat.le_refl _⟩ ?_
    cases hF
    exact ⟨rfl, rfl, hL⟩
  · replace hF := br_F hc hF
    refine x_aload_n (i := 0) (b := 8) dX7_release_7 rfl rfl rfl ?_
    refine x_getI (v := gI h 7 0 15) (b := 11) fk_X7_56 dX7_release_8 (by decide) rfl rfl ?_
    refine x_aload_n (i := 0) (b := 12) dX7_release_11 rfl rfl rfl ?_
    refine x_getL (j := 0) (t := (46, 0, true)) (b := 15) fk_X7_52 dX7_release_12 rfl hL rfl rfl rfl ?_
    refine x_alen (kind := 0) (ct := 0) (b := 16) ak_46 (by decide) dX7_release_15 rfl ?_
    refine x_eq (y := 72) rfl ?_
    refine x_icmp_gt (tgt := 70) (b := 19) dX7_release_16 (by decide) rfl (fun hc => ?_) (fun hc => ?_)
    · replace hF := br_T hc hF
      refine x_return dX7_release_70 rfl ⟨Nat.le_refl _, Nat.le_refl _⟩ ?_
      cases hF
      exact ⟨rfl, rfl, hL⟩
    · replace hF := br_F hc hF
      refine x_aload_n (i := 0) (b := 20) dX7_release_19 rfl rfl rfl ?_
      refine x_getL (j := 0) (t := (46, 0, true)) (b := 23) fk_X7_52 dX7_release_20 rfl hL rfl rfl rfl ?_
      refine x_aload_n (i := 0) (b := 24) dX7_release_23 rfl rfl rfl ?_
      refine x_getI (v := gI h 7 0 15) (b := 27) fk_X7_56 dX7_release_24 (by decide) rfl rfl ?_
      refine x_iconst (n := 1) (b := 28) dX7_release_27 (by decide) rfl ?_
      obtain ⟨hs, hF⟩ := ck_e hF
      refine x_isub (b := 29) dX7_release_28 hs rfl ?_
      obtain ⟨hs, hF⟩ := ck_e hF
      refine x_iald (v := gI h 46 0 ((gI h 7 0 15) - 1)) (b := 30) ak_46 dX7_release_29 hs rfl rfl ?_
      obtain ⟨v1, h2, hq, hF⟩ := bd_e hF
      refine x_callS (as := [xi (gI h 46 0 ((gI h 7 0 15) - 1))]) (rest := []) (b := 33) (c_X7_rankOf d (gI h 46 0 ((gI h 7 0 15) - 1)) h _ hL hq) dX7_release_30 cw_X7_353 rfl rfl (Nat.le_of_ble_eq_true rfl) ⟨Nat.le_refl _, Nat.le_refl _⟩ rfl (fun rv hh hp _ => ?_)
      obtain ⟨rfl, rfl, hL⟩ := hp
      refine x_iload_n (i := 1) (b := 34) dX7_release_33 rfl rfl rfl ?_
      refine x_icmp_lt (tgt := 70) (b := 37) dX7_release_34 (by decide) rfl (fun hc => ?_) (fun hc => ?_)
      · replace hF := br_T hc hF
        refine x_return dX7_release_70 rfl ⟨Nat.le_refl _, Nat.le_refl _⟩ ?_
        cases hF
        exact ⟨rfl, rfl, hL⟩
      · replace hF := br_F hc hF
        refine x_aload_n (i := 0) (b := 38) dX7_release_37 rfl rfl rfl ?_
        refine x_dup (b := 39) dX7_release_38 rfl rfl ?_
        refine x_getI (v := gI h2 7 0 15) (b := 42) fk_X7_56 dX7_release_39 (by decide) rfl rfl ?_
        refine x_iconst (n := 1) (b := 43) dX7_release_42 (by decide) rfl ?_
        obtain ⟨hs, hF⟩ := ck_e hF
        refine x_isub (b := 44) dX7_release_43 hs rfl ?_
        refine x_putI (b := 47) fk_X7_56 dX7_release_44 rfl rfl 15 rfl ?_
        obtain ⟨h3, e_h3, hF⟩ := lt_e hF
        refine x_hp (h2 := h3) e_h3 ?_
        replace hL : Lay h3 := by rw [← e_h3]; exact hL
        refine x_aload_n (i := 0) (b := 48) dX7_release_47 rfl rfl rfl ?_
        obtain ⟨j4, e_j4, hF⟩ := rf_e hF
        refine x_getR (v := some (0, j4)) (b := 51) fk_X7_76 dX7_release_48 rfl e_j4 rfl ?_
        refine x_getL (j := j4) (t := (1, 0, true)) (b := 54) fk_X7_313 dX7_release_51 rfl hL rfl rfl rfl ?_
        refine x_aload_n (i := 0) (b := 55) dX7_release_54 rfl rfl rfl ?_
        refine x_getL (j := 0) (t := (46, 0, true)) (b := 58) fk_X7_52 dX7_release_55 rfl hL rfl rfl rfl ?_
        refine x_aload_n (i := 0) (b := 59) dX7_release_58 rfl rfl rfl ?_
        refine x_getI (v := gI h3 7 0 15) (b := 62) fk_X7_56 dX7_release_59 (by decide) rfl rfl ?_
        obtain ⟨hs, hF⟩ := ck_e hF
        refine x_iald (v := gI h3 46 0 (gI h3 7 0 15)) (b := 63) ak_46 dX7_release_62 hs rfl rfl ?_
        refine x_iconst (n := 0) (b := 64) dX7_release_63 (by decide) rfl ?_
        obtain ⟨v5, h6, hq, hF⟩ := bd_e hF
        refine x_callV (as := [xi (gI h3 46 0 (gI h3 7 0 15)), xi 0]) (rest := []) (b := 67) (c_X1_add d j4 (gI h3 46 0 (gI h3 7 0 15)) 0 h3 _ hL hq) dX7_release_64 cw_X7_349 ⟨_, _, rfl, Nat.le_of_ble_eq_true rfl⟩ rfl rfl (Nat.le_of_ble_eq_true rfl) ⟨Nat.le_refl _, Nat.le_refl _⟩ rfl (fun rv hh hp _ => ?_)
        obtain ⟨rfl, rfl, hL⟩ := hp
        refine x_goto (tgt := 0) dX7_release_67 (by decide) ?_
        exact x_dp (ls2 := [some (xr 7 0), some (xi x1)]) ⟨rfl, rfl, trivial⟩ (hr_0 x1 h6 hL hF)
set_option maxHeartbeats 4000000 in
set_option maxRecDepth 100000 in
theorem u_X7_release (E : xE) (d : Nat) (r : Int × Hp) : ∀ n : Nat, (∀ (x1 : Int) (h : Hp), Lay h → g_X7_release n 0 [x1] h = some r → X E mX7_release (d + 2) (0, 0) (0, 0) 0 [some (xr 7 0), some (xi x1)] [] h (PoV r)) := by
  intro n
  induction n with
  | zero => exact fun _ _ _ hF => no_e (r := r) hF
  | succ n ih => exact fun x1 h hL hF => t_X7_release_0 E d (g_X7_release n) r ih x1 h hL hF
theorem c_X7_release (d : Nat) (x1 : Int) (h : Hp) (r : Int × Hp) (hL : Lay h) (hF : f_X7_release x1 h = some r) : Sp mX7_release (d + 2) (0, 0) [xr 7 0, xi x1] h (PoV r) :=
  sp_of (by decide) rfl (Nat.le_of_ble_eq_true rfl) (ls := [some (xr 7 0), some (xi x1)]) rfl (fun E _ => (u_X7_release E d r FU) x1 h hL hF)
theorem dX7_wrong_0 : decode cX7_wrong 0 = .ok (.aload_n 0, 1) := by decide +kernel
theorem dX7_wrong_1 : decode cX7_wrong 1 = .ok (.iload_n 1, 1) := by decide +kernel
theorem dX7_wrong_2 : decode cX7_wrong 2 = .ok (.putfield 15, 3) := by decide +kernel
theorem dX7_wrong_5 : decode cX7_wrong 5 = .ok (.aload_n 0, 1) := by decide +kernel
theorem dX7_wrong_6 : decode cX7_wrong 6 = .ok (.iload_n 2, 1) := by decide +kernel
theorem dX7_wrong_7 : decode cX7_wrong 7 = .ok (.putfield 18, 3) := by decide +kernel
theorem dX7_wrong_10 : decode cX7_wrong 10 = .ok (.iconst 0, 1) := by decide +kernel
theorem dX7_wrong_11 : decode cX7_wrong 11 = .ok (.ireturn, 1) := by decide +kernel
noncomputable def b_X7_wrong_0 (rec : Rk) (x1 x2 : Int) (h : Hp) : Option (Int × Hp) :=
  lt (sI h 7 0 3 x1) fun h1 =>
  lt (sI h1 7 0 4 x2) fun h2 =>
  some (0, h2)
noncomputable def g_X7_wrong (n : Nat) : Rk := Nat.rec (motive := fun _ => Rk) (fun _ _ _ => none) (fun _ rec k l h => if k = 0 then b_X7_wrong_0 rec (l.getD 0 0) (l.getD 1 0) h else none) n
noncomputable def f_X7_wrong (x1 x2 : Int) (h : Hp) : Option (Int × Hp) := g_X7_wrong FU 0 [x1, x2] h
set_option maxHeartbeats 4000000 in
set_option maxRecDepth 100000 in
theorem t_X7_wrong_0 (E : xE) (d : Nat) (rec : Rk) (r : Int × Hp) (x1 x2 : Int) (h : Hp) (hL : Lay h) (hF : b_X7_wrong_0 rec x1 x2 h = some r) : X E mX7_wrong (d + 1) (0, 0) (0, 0) 0 [some (xr 7 0), some (xi x1), some (xi x2)] [] h (PoI r) := by
  unfold b_X7_wrong_0 at hF
  refine x_aload_n (i := 0) (b := 1) dX7_wrong_0 rfl rfl rfl ?_
  refine x_iload_n (i := 1) (b := 2) dX7_wrong_1 rfl rfl rfl ?_
  refine x_putI (b := 5) fk_X7_15 dX7_wrong_2 rfl rfl 3 rfl ?_
  obtain ⟨h1, e_h1, hF⟩ := lt_e hF
  refine x_hp (h2 := h1) e_h1 ?_
  replace hL : Lay h1 := by rw [← e_h1]; exact hL
  refine x_aload_n (i := 0) (b := 6) dX7_wrong_5 rfl rfl rfl ?_
  refine x_iload_n (i := 2) (b := 7) dX7_wrong_6 rfl rfl rfl ?_
  refine x_putI (b := 10) fk_X7_18 dX7_wrong_7 rfl rfl 4 rfl ?_
  obtain ⟨h2, e_h2, hF⟩ := lt_e hF
  refine x_hp (h2 := h2) e_h2 ?_
  replace hL : Lay h2 := by rw [← e_h2]; exact hL
  refine x_iconst (n := 0) (b := 11) dX7_wrong_10 (by decide) rfl ?_
  refine x_zreturn dX7_wrong_11 rfl ⟨Nat.le_refl _, Nat.le_refl _⟩ (by decide) ?_
  cases hF
  exact ⟨rfl, rfl, hL⟩
set_option maxHeartbeats 4000000 in
set_option maxRecDepth 100000 in
theorem u_X7_wrong (E : xE) (d : Nat) (r : Int × Hp) : ∀ n : Nat, (∀ (x1 x2 : Int) (h : Hp), Lay h → g_X7_wrong n 0 [x1, x2] h = some r → X E mX7_wrong (d + 1) (0, 0) (0, 0) 0 [some (xr 7 0), some (xi x1), some (xi x2)] [] h (PoI r)) := by
  intro n
  induction n with
  | zero => exact fun _ _ _ _ hF => no_e (r := r) hF
  | succ n ih => exact fun x1 x2 h hL hF => t_X7_wrong_0 E d (g_X7_wrong n) r  x1 x2 h hL hF
theorem c_X7_wrong (d : Nat) (x1 x2 : Int) (h : Hp) (r : Int × Hp) (hL : Lay h) (hF : f_X7_wrong x1 x2 h = some r) : Sp mX7_wrong (d + 1) (0, 0) [xr 7 0, xi x1, xi x2] h (PoI r) :=
  sp_of (by decide) rfl (Nat.le_of_ble_eq_true rfl) (ls := [some (xr 7 0), some (xi x1), some (xi x2)]) rfl (fun E _ => (u_X7_wrong E d r FU) x1 x2 h hL hF)
theorem dX8_follows_0 : decode cX8_follows 0 = .ok (.aload_n 0, 1) := by decide +kernel
theorem dX8_follows_1 : decode cX8_follows 1 = .ok (.getfield 19, 3) := by decide +kernel
theorem dX8_follows_4 : decode cX8_follows 4 = .ok (.aload_n 0, 1) := by decide +kernel
theorem dX8_follows_5 : decode cX8_follows 5 = .ok (.getfield 15, 3) := by decide +kernel
theorem dX8_follows_8 : decode cX8_follows 8 = .ok (.if_icmp .ge 20, 3) := by decide +kernel
theorem dX8_follows_11 : decode cX8_follows 11 = .ok (.aload_n 0, 1) := by decide +kernel
theorem dX8_follows_12 : decode cX8_follows 12 = .ok (.getfield 40, 3) := by decide +kernel
theorem dX8_follows_15 : decode cX8_follows 15 = .ok (.aload_n 0, 1) := by decide +kernel
theorem dX8_follows_16 : decode cX8_follows 16 = .ok (.getfield 19, 3) := by decide +kernel
theorem dX8_follows_19 : decode cX8_follows 19 = .ok (.baload, 1) := by decide +kernel
theorem dX8_follows_20 : decode cX8_follows 20 = .ok (.iload_n 1, 1) := by decide +kernel
theorem dX8_follows_21 : decode cX8_follows 21 = .ok (.if_icmp .ne 7, 3) := by decide +kernel
theorem dX8_follows_24 : decode cX8_follows 24 = .ok (.iconst 1, 1) := by decide +kernel
theorem dX8_follows_25 : decode cX8_follows 25 = .ok (.goto 4, 3) := by decide +kernel
theorem dX8_follows_28 : decode cX8_follows 28 = .ok (.iconst 0, 1) := by decide +kernel
theorem dX8_follows_29 : decode cX8_follows 29 = .ok (.istore_n 2, 1) := by decide +kernel
theorem dX8_follows_30 : decode cX8_follows 30 = .ok (.aload_n 0, 1) := by decide +kernel
theorem dX8_follows_31 : decode cX8_follows 31 = .ok (.dup, 1) := by decide +kernel
theorem dX8_follows_32 : decode cX8_follows 32 = .ok (.getfield 19, 3) := by decide +kernel
theorem dX8_follows_35 : decode cX8_follows 35 = .ok (.iload_n 2, 1) := by decide +kernel
theorem dX8_follows_36 : decode cX8_follows 36 = .ok (.ifCond .eq 7, 3) := by decide +kernel
theorem dX8_follows_39 : decode cX8_follows 39 = .ok (.iconst 1, 1) := by decide +kernel
theorem dX8_follows_40 : decode cX8_follows 40 = .ok (.goto 4, 3) := by decide +kernel
theorem dX8_follows_43 : decode cX8_follows 43 = .ok (.iconst 0, 1) := by decide +kernel
theorem dX8_follows_44 : decode cX8_follows 44 = .ok (.iadd, 1) := by decide +kernel
theorem dX8_follows_45 : decode cX8_follows 45 = .ok (.putfield 19, 3) := by decide +kernel
theorem dX8_follows_48 : decode cX8_follows 48 = .ok (.iload_n 2, 1) := by decide +kernel
theorem dX8_follows_49 : decode cX8_follows 49 = .ok (.ireturn, 1) := by decide +kernel
noncomputable def b_X8_follows_0 (rec : Rk) (x1 : Int) (h : Hp) : Option (Int × Hp) :=
  if (gI h 8 0 2) ≤ (gI h 8 0 3) then (
    rec 1 [] h
  ) else (
    ck (0 ≤ (gI h 8 0 3) ∧ (gI h 8 0 3) < 800) <|
    if (gI h 58 0 (gI h 8 0 3)) = x1 then (
      rec 2 [1] h
    ) else (
      rec 1 [] h
    )
  )
noncomputable def b_X8_follows_1 (rec : Rk) (h : Hp) : Option (Int × Hp) :=
  rec 2 [0] h
noncomputable def b_X8_follows_2 (rec : Rk) (y0 : Int) (h : Hp) : Option (Int × Hp) :=
  if y0 = 0 then (
    ck (-2147483648 ≤ (gI h 8 0 3) + 0 ∧ (gI h 8 0 3) + 0 < 2147483648) <|
    lt (sI h 8 0 3 ((gI h 8 0 3) + 0)) fun h1 =>
    ck (0 ≤ y0 ∧ y0 < 2) <|
    some (y0, h1)
  ) else (
    ck (-2147483648 ≤ (gI h 8 0 3) + 1 ∧ (gI h 8 0 3) + 1 < 2147483648) <|
    lt (sI h 8 0 3 ((gI h 8 0 3) + 1)) fun h2 =>
    ck (0 ≤ y0 ∧ y0 < 2) <|
    some (y0, h2)
  )
noncomputable def g_X8_follows (n : Nat) : Rk := Nat.rec (motive := fun _ => Rk) (fun _ _ _ => none) (fun _ rec k l h => if k = 0 then b_X8_follows_0 rec (l.getD 0 0) h else if k = 1 then b_X8_follows_1 rec  h else if k = 2 then b_X8_follows_2 rec (l.getD 0 0) h else none) n
noncomputable def f_X8_follows (x1 : Int) (h : Hp) : Option (Int × Hp) := g_X8_follows FU 0 [x1] h
set_option maxHeartbeats 4000000 in
set_option maxRecDepth 100000 in
theorem t_X8_follows_0 (E : xE) (d : Nat) (rec : Rk) (r : Int × Hp) (hr_28 : ∀ (h : Hp), Lay h → rec 1 [] h = some r → X E mX8_follows (d + 1) (0, 0) (0, 0) 28 [some (xr 8 0), none, none] [] h (PoI r)) (hr_29 : ∀ (y0 : Int) (h : Hp), Lay h → rec 2 [y0] h = some r → X E mX8_follows (d + 1) (0, 0) (0, 0) 29 [some (xr 8 0), none, none] [xi y0] h (PoI r)) (x1 : Int) (h : Hp) (hL : Lay h) (hF : b_X8_follows_0 rec x1 h = some r) : X E mX8_follows (d + 1) (0, 0) (0, 0) 0 [some (xr 8 0), some (xi x1), none] [] h (PoI r) := by
  unfold b_X8_follows_0 at hF
  refine x_aload_n (i := 0) (b := 1) dX8_follows_0 rfl rfl rfl ?_
  refine x_getI (v := gI h 8 0 3) (b := 4) fk_X8_19 dX8_follows_1 (by decide) rfl rfl ?_
  refine x_aload_n (i := 0) (b := 5) dX8_follows_4 rfl rfl rfl ?_
  refine x_getI (v := gI h 8 0 2) (b := 8) fk_X8_15 dX8_follows_5 (by decide) rfl rfl ?_
  refine x_icmp_ge (tgt := 28) (b := 11) dX8_follows_8 (by decide) rfl (fun hc => ?_) (fun hc => ?_)
  · replace hF := br_T hc hF
    exact x_dp (ls2 := [some (xr 8 0), none, none]) ⟨rfl, trivial⟩ (hr_28  h hL hF)
  · replace hF := br_F hc hF
    refine x_aload_n (i := 0) (b := 12) dX8_follows_11 rfl rfl rfl ?_
    refine x_getL (j := 0) (t := (58, 0, false)) (b := 15) fk_X8_40 dX8_follows_12 rfl hL rfl rfl rfl ?_
    refine x_aload_n (i := 0) (b := 16) dX8_follows_15 rfl rfl rfl ?_
    refine x_getI (v := gI h 8 0 3) (b := 19) fk_X8_19 dX8_follows_16 (by decide) rfl rfl ?_
    obtain ⟨hs, hF⟩ := ck_e hF
    refine x_bald (v := gI h 58 0 (gI h 8 0 3)) (b := 20) ak_58 dX8_follows_19 hs rfl rfl ?_
    refine x_iload_n (i := 1) (b := 21) dX8_follows_20 rfl rfl rfl ?_
    refine x_icmp_ne (tgt := 28) (b := 24) dX8_follows_21 (by decide) rfl (fun hc => ?_) (fun hc => ?_)
    · replace hF := br_F hc hF
      exact x_dp (ls2 := [some (xr 8 0), none, none]) ⟨rfl, trivial⟩ (hr_28  h hL hF)
    · replace hF := br_T hc hF
      refine x_iconst (n := 1) (b := 25) dX8_follows_24 (by decide) rfl ?_
      refine x_goto (tgt := 29) dX8_follows_25 (by decide) ?_
      exact x_dp (ls2 := [some (xr 8 0), none, none]) ⟨rfl, trivial⟩ (hr_29 1 h hL hF)
set_option maxHeartbeats 4000000 in
set_option maxRecDepth 100000 in
theorem t_X8_follows_1 (E : xE) (d : Nat) (rec : Rk) (r : Int × Hp) (hr_29 : ∀ (y0 : Int) (h : Hp), Lay h → rec 2 [y0] h = some r → X E mX8_follows (d + 1) (0, 0) (0, 0) 29 [some (xr 8 0), none, none] [xi y0] h (PoI r)) (h : Hp) (hL : Lay h) (hF : b_X8_follows_1 rec  h = some r) : X E mX8_follows (d + 1) (0, 0) (0, 0) 28 [some (xr 8 0), none, none] [] h (PoI r) := by
  unfold b_X8_follows_1 at hF
  refine x_iconst (n := 0) (b := 29) dX8_follows_28 (by decide) rfl ?_
  exact x_dp (ls2 := [some (xr 8 0), none, none]) ⟨rfl, trivial⟩ (hr_29 0 h hL hF)
set_option maxHeartbeats 4000000 in
set_option maxRecDepth 100000 in
theorem t_X8_follows_2 (E : xE) (d : Nat) (rec : Rk) (r : Int × Hp) (y0 : Int) (h : Hp) (hL : Lay h) (hF : b_X8_follows_2 rec y0 h = some r) : X E mX8_follows (d + 1) (0, 0) (0, 0) 29 [some (xr 8 0), none, none] [xi y0] h (PoI r) := by
  unfold b_X8_follows_2 at hF
  refine x_istore_n (i := 2) (b := 30) (ls2 := [some (xr 8 0), none, some (xi y0)]) dX8_follows_29 rfl (Nat.le_of_ble_eq_true rfl) rfl rfl ?_
  refine x_aload_n (i := 0) (b := 31) dX8_follows_30 rfl rfl rfl ?_
  refine x_dup (b := 32) dX8_follows_31 rfl rfl ?_
  refine x_getI (v := gI h 8 0 3) (b := 35) fk_X8_19 dX8_follows_32 (by decide) rfl rfl ?_
  refine x_iload_n (i := 2) (b := 36) dX8_follows_35 rfl rfl rfl ?_
  refine x_if_eq (tgt := 43) (b := 39) dX8_follows_36 (by decide) rfl (fun hc => ?_) (fun hc => ?_)
  · replace hF := br_T hc hF
    refine x_iconst (n := 0) (b := 44) dX8_follows_43 (by decide) rfl ?_
    obtain ⟨hs, hF⟩ := ck_e hF
    refine x_iadd (b := 45) dX8_follows_44 hs rfl ?_
    refine x_putI (b := 48) fk_X8_19 dX8_follows_45 rfl rfl 3 rfl ?_
    obtain ⟨h1, e_h1, hF⟩ := lt_e hF
    refine x_hp (h2 := h1) e_h1 ?_
    replace hL : Lay h1 := by rw [← e_h1]; exact hL
    refine x_iload_n (i := 2) (b := 49) dX8_follows_48 rfl rfl rfl ?_
    obtain ⟨hs, hF⟩ := ck_e hF
    refine x_zreturn dX8_follows_49 rfl ⟨Nat.le_refl _, Nat.le_refl _⟩ hs ?_
    cases hF
    exact ⟨rfl, rfl, hL⟩
  · replace hF := br_F hc hF
    refine x_iconst (n := 1) (b := 40) dX8_follows_39 (by decide) rfl ?_
    refine x_goto (tgt := 44) dX8_follows_40 (by decide) ?_
    obtain ⟨hs, hF⟩ := ck_e hF
    refine x_iadd (b := 45) dX8_follows_44 hs rfl ?_
    refine x_putI (b := 48) fk_X8_19 dX8_follows_45 rfl rfl 3 rfl ?_
    obtain ⟨h2, e_h2, hF⟩ := lt_e hF
    refine x_hp (h2 := h2) e_h2 ?_
    replace hL : Lay h2 := by rw [← e_h2]; exact hL
    refine x_iload_n (i := 2) (b := 49) dX8_follows_48 rfl rfl rfl ?_
    obtain ⟨hs, hF⟩ := ck_e hF
    refine x_zreturn dX8_follows_49 rfl ⟨Nat.le_refl _, Nat.le_refl _⟩ hs ?_
    cases hF
    exact ⟨rfl, rfl, hL⟩
set_option maxHeartbeats 4000000 in
set_option maxRecDepth 100000 in
theorem u_X8_follows (E : xE) (d : Nat) (r : Int × Hp) : ∀ n : Nat, (∀ (x1 : Int) (h : Hp), Lay h → g_X8_follows n 0 [x1] h = some r → X E mX8_follows (d + 1) (0, 0) (0, 0) 0 [some (xr 8 0), some (xi x1), none] [] h (PoI r)) ∧ (∀ (h : Hp), Lay h → g_X8_follows n 1 [] h = some r → X E mX8_follows (d + 1) (0, 0) (0, 0) 28 [some (xr 8 0), none, none] [] h (PoI r)) ∧ (∀ (y0 : Int) (h : Hp), Lay h → g_X8_follows n 2 [y0] h = some r → X E mX8_follows (d + 1) (0, 0) (0, 0) 29 [some (xr 8 0), none, none] [xi y0] h (PoI r)) := by
  intro n
  induction n with
  | zero => exact ⟨fun _ _ _ hF => no_e (r := r) hF, fun _ _ hF => no_e (r := r) hF, fun _ _ _ hF => no_e (r := r) hF⟩
  | succ n ih => exact ⟨fun x1 h hL hF => t_X8_follows_0 E d (g_X8_follows n) r ih.2.1 ih.2.2 x1 h hL hF, fun h hL hF => t_X8_follows_1 E d (g_X8_follows n) r ih.2.2  h hL hF, fun y0 h hL hF => t_X8_follows_2 E d (g_X8_follows n) r  y0 h hL hF⟩
theorem c_X8_follows (d : Nat) (x1 : Int) (h : Hp) (r : Int × Hp) (hL : Lay h) (hF : f_X8_follows x1 h = some r) : Sp mX8_follows (d + 1) (0, 0) [xr 8 0, xi x1] h (PoI r) :=
  sp_of (by decide) rfl (Nat.le_of_ble_eq_true rfl) (ls := [some (xr 8 0), some (xi x1), none]) rfl (fun E _ => (u_X8_follows E d r FU).1 x1 h hL hF)
theorem dX8_isDigit_0 : decode cX8_isDigit 0 = .ok (.iload_n 0, 1) := by decide +kernel
theorem dX8_isDigit_1 : decode cX8_isDigit 1 = .ok (.bipush 48, 2) := by decide +kernel
theorem dX8_isDigit_3 : decode cX8_isDigit 3 = .ok (.if_icmp .lt 13, 3) := by decide +kernel
theorem dX8_isDigit_6 : decode cX8_isDigit 6 = .ok (.iload_n 0, 1) := by decide +kernel
theorem dX8_isDigit_7 : decode cX8_isDigit 7 = .ok (.bipush 57, 2) := by decide +kernel
theorem dX8_isDigit_9 : decode cX8_isDigit 9 = .ok (.if_icmp .gt 7, 3) := by decide +kernel
theorem dX8_isDigit_12 : decode cX8_isDigit 12 = .ok (.iconst 1, 1) := by decide +kernel
theorem dX8_isDigit_13 : decode cX8_isDigit 13 = .ok (.goto 4, 3) := by decide +kernel
theorem dX8_isDigit_16 : decode cX8_isDigit 16 = .ok (.iconst 0, 1) := by decide +kernel
theorem dX8_isDigit_17 : decode cX8_isDigit 17 = .ok (.ireturn, 1) := by decide +kernel
noncomputable def b_X8_isDigit_0 (rec : Rk) (x0 : Int) (h : Hp) : Option (Int × Hp) :=
  if x0 < 48 then (
    some (0, h)
  ) else (
    if 57 < x0 then (
      some (0, h)
    ) else (
      some (1, h)
    )
  )
noncomputable def g_X8_isDigit (n : Nat) : Rk := Nat.rec (motive := fun _ => Rk) (fun _ _ _ => none) (fun _ rec k l h => if k = 0 then b_X8_isDigit_0 rec (l.getD 0 0) h else none) n
noncomputable def f_X8_isDigit (x0 : Int) (h : Hp) : Option (Int × Hp) := g_X8_isDigit FU 0 [x0] h
set_option maxHeartbeats 4000000 in
set_option maxRecDepth 100000 in
theorem t_X8_isDigit_0 (E : xE) (d : Nat) (rec : Rk) (r : Int × Hp) (x0 : Int) (h : Hp) (hL : Lay h) (hF : b_X8_isDigit_0 rec x0 h = some r) : X E mX8_isDigit (d + 1) (0, 0) (0, 0) 0 [some (xi x0)] [] h (PoI r) := by
  unfold b_X8_isDigit_0 at hF
  refine x_iload_n (i := 0) (b := 1) dX8_isDigit_0 rfl rfl rfl ?_
  refine x_bipush (n := 48) (b := 3) dX8_isDigit_1 (by decide) rfl ?_
  refine x_icmp_lt (tgt := 16) (b := 6) dX8_isDigit_3 (by decide) rfl (fun hc => ?_) (fun hc => ?_)
  · replace hF := br_T hc hF
    refine x_iconst (n := 0) (b := 17) dX8_isDigit_16 (by decide) rfl ?_
    refine x_zreturn dX8_isDigit_17 rfl ⟨Nat.le_refl _, Nat.le_refl _⟩ (by decide) ?_
    cases hF
    exact ⟨rfl, rfl, hL⟩
  · replace hF := br_F hc hF
    refine x_iload_n (i := 0) (b := 7) dX8_isDigit_6 rfl rfl rfl ?_
    refine x_bipush (n := 57) (b := 9) dX8_isDigit_7 (by decide) rfl ?_
    refine x_icmp_gt (tgt := 16) (b := 12) dX8_isDigit_9 (by decide) rfl (fun hc => ?_) (fun hc => ?_)
    · replace hF := br_T hc hF
      refine x_iconst (n := 0) (b := 17) dX8_isDigit_16 (by decide) rfl ?_
      refine x_zreturn dX8_isDigit_17 rfl ⟨Nat.le_refl _, Nat.le_refl _⟩ (by decide) ?_
      cases hF
      exact ⟨rfl, rfl, hL⟩
    · replace hF := br_F hc hF
      refine x_iconst (n := 1) (b := 13) dX8_isDigit_12 (by decide) rfl ?_
      refine x_goto (tgt := 17) dX8_isDigit_13 (by decide) ?_
      refine x_zreturn dX8_isDigit_17 rfl ⟨Nat.le_refl _, Nat.le_refl _⟩ (by decide) ?_
      cases hF
      exact ⟨rfl, rfl, hL⟩
set_option maxHeartbeats 4000000 in
set_option maxRecDepth 100000 in
theorem u_X8_isDigit (E : xE) (d : Nat) (r : Int × Hp) : ∀ n : Nat, (∀ (x0 : Int) (h : Hp), Lay h → g_X8_isDigit n 0 [x0] h = some r → X E mX8_isDigit (d + 1) (0, 0) (0, 0) 0 [some (xi x0)] [] h (PoI r)) := by
  intro n
  induction n with
  | zero => exact fun _ _ _ hF => no_e (r := r) hF
  | succ n ih => exact fun x0 h hL hF => t_X8_isDigit_0 E d (g_X8_isDigit n) r  x0 h hL hF
theorem c_X8_isDigit (d : Nat) (x0 : Int) (h : Hp) (r : Int × Hp) (hL : Lay h) (hF : f_X8_isDigit x0 h = some r) : Sp mX8_isDigit (d + 1) (0, 0) [xi x0] h (PoI r) :=
  sp_of (by decide) rfl (Nat.le_of_ble_eq_true rfl) (ls := [some (xi x0)]) rfl (fun E _ => (u_X8_isDigit E d r FU) x0 h hL hF)
theorem dX8_isLetter_0 : decode cX8_isLetter 0 = .ok (.iload_n 0, 1) := by decide +kernel
theorem dX8_isLetter_1 : decode cX8_isLetter 1 = .ok (.bipush 97, 2) := by decide +kernel
theorem dX8_isLetter_3 : decode cX8_isLetter 3 = .ok (.if_icmp .lt 13, 3) := by decide +kernel
theorem dX8_isLetter_6 : decode cX8_isLetter 6 = .ok (.iload_n 0, 1) := by decide +kernel
theorem dX8_isLetter_7 : decode cX8_isLetter 7 = .ok (.bipush 122, 2) := by decide +kernel
theorem dX8_isLetter_9 : decode cX8_isLetter 9 = .ok (.if_icmp .gt 7, 3) := by decide +kernel
theorem dX8_isLetter_12 : decode cX8_isLetter 12 = .ok (.iconst 1, 1) := by decide +kernel
theorem dX8_isLetter_13 : decode cX8_isLetter 13 = .ok (.goto 4, 3) := by decide +kernel
theorem dX8_isLetter_16 : decode cX8_isLetter 16 = .ok (.iconst 0, 1) := by decide +kernel
theorem dX8_isLetter_17 : decode cX8_isLetter 17 = .ok (.ireturn, 1) := by decide +kernel
noncomputable def b_X8_isLetter_0 (rec : Rk) (x0 : Int) (h : Hp) : Option (Int × Hp) :=
  if x0 < 97 then (
    some (0, h)
  ) else (
    if 122 < x0 then (
      some (0, h)
    ) else (
      some (1, h)
    )
  )
noncomputable def g_X8_isLetter (n : Nat) : Rk := Nat.rec (motive := fun _ => Rk) (fun _ _ _ => none) (fun _ rec k l h => if k = 0 then b_X8_isLetter_0 rec (l.getD 0 0) h else none) n
noncomputable def f_X8_isLetter (x0 : Int) (h : Hp) : Option (Int × Hp) := g_X8_isLetter FU 0 [x0] h
set_option maxHeartbeats 4000000 in
set_option maxRecDepth 100000 in
theorem t_X8_isLetter_0 (E : xE) (d : Nat) (rec : Rk) (r : Int × Hp) (x0 : Int) (h : Hp) (hL : Lay h) (hF : b_X8_isLetter_0 rec x0 h = some r) : X E mX8_isLetter (d + 1) (0, 0) (0, 0) 0 [some (xi x0)] [] h (PoI r) := by
  unfold b_X8_isLetter_0 at hF
  refine x_iload_n (i := 0) (b := 1) dX8_isLetter_0 rfl rfl rfl ?_
  refine x_bipush (n := 97) (b := 3) dX8_isLetter_1 (by decide) rfl ?_
  refine x_icmp_lt (tgt := 16) (b := 6) dX8_isLetter_3 (by decide) rfl (fun hc => ?_) (fun hc => ?_)
  · replace hF := br_T hc hF
    refine x_iconst (n := 0) (b := 17) dX8_isLetter_16 (by decide) rfl ?_
    refine x_zreturn dX8_isLetter_17 rfl ⟨Nat.le_refl _, Nat.le_refl _⟩ (by decide) ?_
    cases hF
    exact ⟨rfl, rfl, hL⟩
  · replace hF := br_F hc hF
    refine x_iload_n (i := 0) (b := 7) dX8_isLetter_6 rfl rfl rfl ?_
    refine x_bipush (n := 122) (b := 9) dX8_isLetter_7 (by decide) rfl ?_
    refine x_icmp_gt (tgt := 16) (b := 12) dX8_isLetter_9 (by decide) rfl (fun hc => ?_) (fun hc => ?_)
    · replace hF := br_T hc hF
      refine x_iconst (n := 0) (b := 17) dX8_isLetter_16 (by decide) rfl ?_
      refine x_zreturn dX8_isLetter_17 rfl ⟨Nat.le_refl _, Nat.le_refl _⟩ (by decide) ?_
      cases hF
      exact ⟨rfl, rfl, hL⟩
    · replace hF := br_F hc hF
      refine x_iconst (n := 1) (b := 13) dX8_isLetter_12 (by decide) rfl ?_
      refine x_goto (tgt := 17) dX8_isLetter_13 (by decide) ?_
      refine x_zreturn dX8_isLetter_17 rfl ⟨Nat.le_refl _, Nat.le_refl _⟩ (by decide) ?_
      cases hF
      exact ⟨rfl, rfl, hL⟩
set_option maxHeartbeats 4000000 in
set_option maxRecDepth 100000 in
theorem u_X8_isLetter (E : xE) (d : Nat) (r : Int × Hp) : ∀ n : Nat, (∀ (x0 : Int) (h : Hp), Lay h → g_X8_isLetter n 0 [x0] h = some r → X E mX8_isLetter (d + 1) (0, 0) (0, 0) 0 [some (xi x0)] [] h (PoI r)) := by
  intro n
  induction n with
  | zero => exact fun _ _ _ hF => no_e (r := r) hF
  | succ n ih => exact fun x0 h hL hF => t_X8_isLetter_0 E d (g_X8_isLetter n) r  x0 h hL hF
theorem c_X8_isLetter (d : Nat) (x0 : Int) (h : Hp) (r : Int × Hp) (hL : Lay h) (hF : f_X8_isLetter x0 h = some r) : Sp mX8_isLetter (d + 1) (0, 0) [xi x0] h (PoI r) :=
  sp_of (by decide) rfl (Nat.le_of_ble_eq_true rfl) (ls := [some (xi x0)]) rfl (fun E _ => (u_X8_isLetter E d r FU) x0 h hL hF)
theorem dX8_scanNumber_0 : decode cX8_scanNumber 0 = .ok (.aload_n 0, 1) := by decide +kernel
theorem dX8_scanNumber_1 : decode cX8_scanNumber 1 = .ok (.iconst 3, 1) := by decide +kernel
theorem dX8_scanNumber_2 : decode cX8_scanNumber 2 = .ok (.putfield 22, 3) := by decide +kernel
theorem dX8_scanNumber_5 : decode cX8_scanNumber 5 = .ok (.aload_n 0, 1) := by decide +kernel
theorem dX8_scanNumber_6 : decode cX8_scanNumber 6 = .ok (.getfield 19, 3) := by decide +kernel
theorem dX8_scanNumber_9 : decode cX8_scanNumber 9 = .ok (.aload_n 0, 1) := by decide +kernel
theorem dX8_scanNumber_10 : decode cX8_scanNumber 10 = .ok (.getfield 15, 3) := by decide +kernel
theorem dX8_scanNumber_13 : decode cX8_scanNumber 13 = .ok (.if_icmp .ge 60, 3) := by decide +kernel
theorem dX8_scanNumber_16 : decode cX8_scanNumber 16 = .ok (.aload_n 0, 1) := by decide +kernel
theorem dX8_scanNumber_17 : decode cX8_scanNumber 17 = .ok (.getfield 40, 3) := by decide +kernel
theorem dX8_scanNumber_20 : decode cX8_scanNumber 20 = .ok (.aload_n 0, 1) := by decide +kernel
theorem dX8_scanNumber_21 : decode cX8_scanNumber 21 = .ok (.getfield 19, 3) := by decide +kernel
theorem dX8_scanNumber_24 : decode cX8_scanNumber 24 = .ok (.baload, 1) := by decide +kernel
theorem dX8_scanNumber_25 : decode cX8_scanNumber 25 = .ok (.invokestatic 71, 3) := by decide +kernel
theorem dX8_scanNumber_28 : decode cX8_scanNumber 28 = .ok (.ifCond .eq 45, 3) := by decide +kernel
theorem dX8_scanNumber_31 : decode cX8_scanNumber 31 = .ok (.aload_n 0, 1) := by decide +kernel
theorem dX8_scanNumber_32 : decode cX8_scanNumber 32 = .ok (.ldc 81, 2) := by decide +kernel
theorem dX8_scanNumber_34 : decode cX8_scanNumber 34 = .ok (.aload_n 0, 1) := by decide +kernel
theorem dX8_scanNumber_35 : decode cX8_scanNumber 35 = .ok (.getfield 25, 3) := by decide +kernel
theorem dX8_scanNumber_38 : decode cX8_scanNumber 38 = .ok (.bipush 10, 2) := by decide +kernel
theorem dX8_scanNumber_40 : decode cX8_scanNumber 40 = .ok (.imul, 1) := by decide +kernel
theorem dX8_scanNumber_41 : decode cX8_scanNumber 41 = .ok (.aload_n 0, 1) := by decide +kernel
theorem dX8_scanNumber_42 : decode cX8_scanNumber 42 = .ok (.getfield 40, 3) := by decide +kernel
theorem dX8_scanNumber_45 : decode cX8_scanNumber 45 = .ok (.aload_n 0, 1) := by decide +kernel
theorem dX8_scanNumber_46 : decode cX8_scanNumber 46 = .ok (.getfield 19, 3) := by decide +kernel
theorem dX8_scanNumber_49 : decode cX8_scanNumber 49 = .ok (.baload, 1) := by decide +kernel
theorem dX8_scanNumber_50 : decode cX8_scanNumber 50 = .ok (.iadd, 1) := by decide +kernel
theorem dX8_scanNumber_51 : decode cX8_scanNumber 51 = .ok (.bipush 48, 2) := by decide +kernel
theorem dX8_scanNumber_53 : decode cX8_scanNumber 53 = .ok (.isub, 1) := by decide +kernel
theorem dX8_scanNumber_54 : decode cX8_scanNumber 54 = .ok (.invokestatic 55, 3) := by decide +kernel
theorem dX8_scanNumber_57 : decode cX8_scanNumber 57 = .ok (.putfield 25, 3) := by decide +kernel
theorem dX8_scanNumber_60 : decode cX8_scanNumber 60 = .ok (.aload_n 0, 1) := by decide +kernel
theorem dX8_scanNumber_61 : decode cX8_scanNumber 61 = .ok (.dup, 1) := by decide +kernel
theorem dX8_scanNumber_62 : decode cX8_scanNumber 62 = .ok (.getfield 19, 3) := by decide +kernel
theorem dX8_scanNumber_65 : decode cX8_scanNumber 65 = .ok (.iconst 1, 1) := by decide +kernel
theorem dX8_scanNumber_66 : decode cX8_scanNumber 66 = .ok (.iadd, 1) := by decide +kernel
theorem dX8_scanNumber_67 : decode cX8_scanNumber 67 = .ok (.putfield 19, 3) := by decide +kernel
theorem dX8_scanNumber_70 : decode cX8_scanNumber 70 = .ok (.goto (-65), 3) := by decide +kernel
theorem dX8_scanNumber_73 : decode cX8_scanNumber 73 = .ok (.return_, 1) := by decide +kernel
noncomputable def b_X8_scanNumber_0 (rec : Rk) (h : Hp) : Option (Int × Hp) :=
  lt (sI h 8 0 4 3) fun h1 =>
  rec 1 [] h1
noncomputable def b_X8_scanNumber_1 (rec : Rk) (h : Hp) : Option (Int × Hp) :=
  if (gI h 8 0 2) ≤ (gI h 8 0 3) then (
    some (0, h)
  ) else (
    ck (0 ≤ (gI h 8 0 3) ∧ (gI h 8 0 3) < 800) <|
    bd (f_X8_isDigit (gI h 58 0 (gI h 8 0 3)) h) fun v1 h2 =>
    if v1 = 0 then (
      some (0, h2)
    ) else (
      ck (-2147483648 ≤ (gI h2 8 0 5) * 10 ∧ (gI h2 8 0 5) * 10 < 2147483648) <|
      ck (0 ≤ (gI h2 8 0 3) ∧ (gI h2 8 0 3) < 800) <|
      ck (-2147483648 ≤ ((gI h2 8 0 5) * 10) + (gI h2 58 0 (gI h2 8 0 3)) ∧ ((gI h2 8 0 5) * 10) + (gI h2 58 0 (gI h2 8 0 3)) < 2147483648) <|
      ck (-2147483648 ≤ (((gI h2 8 0 5) * 10) + (gI h2 58 0 (gI h2 8 0 3))) - 48 ∧ (((gI h2 8 0 5) * 10) + (gI h2 58 0 (gI h2 8 0 3))) - 48 < 2147483648) <|
      lt (sI h2 8 0 5 (min 1000000 ((((gI h2 8 0 5) * 10) + (gI h2 58 0 (gI h2 8 0 3))) - 48))) fun h3 =>
      ck (-2147483648 ≤ (gI h3 8 0 3) + 1 ∧ (gI h3 8 0 3) + 1 < 2147483648) <|
      lt (sI h3 8 0 3 ((gI h3 8 0 3) + 1)) fun h4 =>
      rec 1 [] h4
    )
  )
noncomputable def g_X8_scanNumber (n : Nat) : Rk := Nat.rec (motive := fun _ => Rk) (fun _ _ _ => none) (fun _ rec k l h => if k = 0 then b_X8_scanNumber_0 rec  h else if k = 1 then b_X8_scanNumber_1 rec  h else none) n
noncomputable def f_X8_scanNumber (h : Hp) : Option (Int × Hp) := g_X8_scanNumber FU 0 [] h
set_option maxHeartbeats 4000000 in
set_option maxRecDepth 100000 in
theorem t_X8_scanNumber_0 (E : xE) (d : Nat) (rec : Rk) (r : Int × Hp) (hr_5 : ∀ (h : Hp), Lay h → rec 1 [] h = some r → X E mX8_scanNumber (d + 2) (0, 0) (0, 0) 5 [some (xr 8 0)] [] h (PoV r)) (h : Hp) (hL : Lay h) (hF : b_X8_scanNumber_0 rec  h = some r) : X E mX8_scanNumber (d + 2) (0, 0) (0, 0) 0 [some (xr 8 0)] [] h (PoV r) := by
  unfold b_X8_scanNumber_0 at hF
  refine x_aload_n (i := 0) (b := 1) dX8_scanNumber_0 rfl rfl rfl ?_
  refine x_iconst (n := 3) (b := 2) dX8_scanNumber_1 (by decide) rfl ?_
  refine x_putI (b := 5) fk_X8_22 dX8_scanNumber_2 rfl rfl 4 rfl ?_
  obtain ⟨h1, e_h1, hF⟩ := lt_e hF
  refine x_hp (h2 := h1) e_h1 ?_
  replace hL : Lay h1 := by rw [← e_h1]; exact hL
  exact x_dp (ls2 := [some (xr 8 0)]) ⟨rfl, trivial⟩ (hr_5  h1 hL hF)
set_option maxHeartbeats 4000000 in
set_option maxRecDepth 100000 in
theorem t_X8_scanNumber_1 (E : xE) (d : Nat) (rec : Rk) (r : Int × Hp) (hr_5 : ∀ (h : Hp), Lay h → rec 1 [] h = some r → X E mX8_scanNumber (d + 2) (0, 0) (0, 0) 5 [some (xr 8 0)] [] h (PoV r)) (h : Hp) (hL : Lay h) (hF : b_X8_scanNumber_1 rec  h = some r) : X E mX8_scanNumber (d + 2) (0, 0) (0, 0) 5 [some (xr 8 0)] [] h (PoV r) := by
  unfold b_X8_scanNumber_1 at hF
  refine x_aload_n (i := 0) (b := 6) dX8_scanNumber_5 rfl rfl rfl ?_
  refine x_getI (v := gI h 8 0 3) (b := 9) fk_X8_19 dX8_scanNumber_6 (by decide) rfl rfl ?_
  refine x_aload_n (i := 0) (b := 10) dX8_scanNumber_9 rfl rfl rfl ?_
  refine x_getI (v := gI h 8 0 2) (b := 13) fk_X8_15 dX8_scanNumber_10 (by decide) rfl rfl ?_
  refine x_icmp_ge (tgt := 73) (b := 16) dX8_scanNumber_13 (by decide) rfl (fun hc => ?_) (fun hc => ?_)
  · replace hF := br_T hc hF
    refine x_return dX8_scanNumber_73 rfl ⟨Nat.le_refl _, Nat.le_refl _⟩ ?_
    cases hF
    exact ⟨rfl, rfl, hL⟩
  · replace hF := br_F hc hF
    refine x_aload_n (i := 0) (b := 17) dX8_scanNumber_16 rfl rfl rfl ?_
    refine x_getL (j := 0) (t := (58, 0, false)) (b := 20) fk_X8_40 dX8_scanNumber_17 rfl hL rfl rfl rfl ?_
    refine x_aload_n (i := 0) (b := 21) dX8_scanNumber_20 rfl rfl rfl ?_
    refine x_getI (v := gI h 8 0 3) (b := 24) fk_X8_19 dX8_scanNumber_21 (by decide) rfl rfl ?_
    obtain ⟨hs, hF⟩ := ck_e hF
    refine x_bald (v := gI h 58 0 (gI h 8 0 3)) (b := 25) ak_58 dX8_scanNumber_24 hs rfl rfl ?_
    obtain ⟨v1, h2, hq, hF⟩ := bd_e hF
    refine x_callS (as := [xi (gI h 58 0 (gI h 8 0 3))]) (rest := []) (b := 28) (c_X8_isDigit d (gI h 58 0 (gI h 8 0 3)) h _ hL hq) dX8_scanNumber_25 cw_X8_71 rfl rfl (Nat.le_of_ble_eq_true rfl) ⟨Nat.le_refl _, Nat.le_refl _⟩ rfl (fun rv hh hp _ => ?_)
    obtain ⟨rfl, rfl, hL⟩ := hp
    refine x_if_eq (tgt := 73) (b := 31) dX8_scanNumber_28 (by decide) rfl (fun hc => ?_) (fun hc => ?_)
    · replace hF := br_T hc hF
      refine x_return dX8_scanNumber_73 rfl ⟨Nat.le_refl _, Nat.le_refl _⟩ ?_
      cases hF
      exact ⟨rfl, rfl, hL⟩
    · replace hF := br_F hc hF
      refine x_aload_n (i := 0) (b := 32) dX8_scanNumber_31 rfl rfl rfl ?_
      refine x_ldc (z := 1000000) (b := 34) dX8_scanNumber_32 kw_856 (by decide) rfl ?_
      refine x_aload_n (i := 0) (b := 35) dX8_scanNumber_34 rfl rfl rfl ?_
      refine x_getI (v := gI h2 8 0 5) (b := 38) fk_X8_25 dX8_scanNumber_35 (by decide) rfl rfl ?_
      refine x_bipush (n := 10) (b := 40) dX8_scanNumber_38 (by decide) rfl ?_
      obtain ⟨hs, hF⟩ := ck_e hF
      refine x_imul (b := 41) dX8_scanNumber_40 hs rfl ?_
      refine x_aload_n (i := 0) (b := 42) dX8_scanNumber_41 rfl rfl rfl ?_
      refine x_getL (j := 0) (t := (58, 0, false)) (b := 45) fk_X8_40 dX8_scanNumber_42 rfl hL rfl rfl rfl ?_
      refine x_aload_n (i := 0) (b := 46) dX8_scanNumber_45 rfl rfl rfl ?_
      refine x_getI (v := gI h2 8 0 3) (b := 49) fk_X8_19 dX8_scanNumber_46 (by decide) rfl rfl ?_
      obtain ⟨hs, hF⟩ := ck_e hF
      refine x_bald (v := gI h2 58 0 (gI h2 8 0 3)) (b := 50) ak_58 dX8_scanNumber_49 hs rfl rfl ?_
      obtain ⟨hs, hF⟩ := ck_e hF
      refine x_iadd (b := 51) dX8_scanNumber_50 hs rfl ?_
      refine x_bipush (n := 48) (b := 53) dX8_scanNumber_51 (by decide) rfl ?_
      obtain ⟨hs, hF⟩ := ck_e hF
      refine x_isub (b := 54) dX8_scanNumber_53 hs rfl ?_
      refine x_min (b := 57) dX8_scanNumber_54 mw_X8_55 (Nat.le_of_ble_eq_true rfl) ⟨Nat.le_refl _, Nat.le_refl _⟩ rfl ?_
      refine x_putI (b := 60) fk_X8_25 dX8_scanNumber_57 rfl rfl 5 rfl ?_
      obtain ⟨h3, e_h3, hF⟩ := lt_e hF
      refine x_hp (h2 := h3) e_h3 ?_
      replace hL : Lay h3 := by rw [← e_h3]; exact hL
      refine x_aload_n (i := 0) (b := 61) dX8_scanNumber_60 rfl rfl rfl ?_
      refine x_dup (b := 62) dX8_scanNumber_61 rfl rfl ?_
      refine x_getI (v := gI h3 8 0 3) (b := 65) fk_X8_19 dX8_scanNumber_62 (by decide) rfl rfl ?_
      refine x_iconst (n := 1) (b := 66) dX8_scanNumber_65 (by decide) rfl ?_
      obtain ⟨hs, hF⟩ := ck_e hF
      refine x_iadd (b := 67) dX8_scanNumber_66 hs rfl ?_
      refine x_putI (b := 70) fk_X8_19 dX8_scanNumber_67 rfl rfl 3 rfl ?_
      obtain ⟨h4, e_h4, hF⟩ := lt_e hF
      refine x_hp (h2 := h4) e_h4 ?_
      replace hL : Lay h4 := by rw [← e_h4]; exact hL
      refine x_goto (tgt := 5) dX8_scanNumber_70 (by decide) ?_
      exact x_dp (ls2 := [some (xr 8 0)]) ⟨rfl, trivial⟩ (hr_5  h4 hL hF)
set_option maxHeartbeats 4000000 in
set_option maxRecDepth 100000 in
theorem u_X8_scanNumber (E : xE) (d : Nat) (r : Int × Hp) : ∀ n : Nat, (∀ (h : Hp), Lay h → g_X8_scanNumber n 0 [] h = some r → X E mX8_scanNumber (d + 2) (0, 0) (0, 0) 0 [some (xr 8 0)] [] h (PoV r)) ∧ (∀ (h : Hp), Lay h → g_X8_scanNumber n 1 [] h = some r → X E mX8_scanNumber (d + 2) (0, 0) (0, 0) 5 [some (xr 8 0)] [] h (PoV r)) := by
  intro n
  induction n with
  | zero => exact ⟨fun _ _ hF => no_e (r := r) hF, fun _ _ hF => no_e (r := r) hF⟩
  | succ n ih => exact ⟨fun h hL hF => t_X8_scanNumber_0 E d (g_X8_scanNumber n) r ih.2  h hL hF, fun h hL hF => t_X8_scanNumber_1 E d (g_X8_scanNumber n) r ih.2  h hL hF⟩
theorem c_X8_scanNumber (d : Nat) (h : Hp) (r : Int × Hp) (hL : Lay h) (hF : f_X8_scanNumber  h = some r) : Sp mX8_scanNumber (d + 2) (0, 0) [xr 8 0] h (PoV r) :=
  sp_of (by decide) rfl (Nat.le_of_ble_eq_true rfl) (ls := [some (xr 8 0)]) rfl (fun E _ => (u_X8_scanNumber E d r FU).1  h hL hF)
theorem dX8_scanSign_0 : decode cX8_scanSign 0 = .ok (.aload_n 0, 1) := by decide +kernel
theorem dX8_scanSign_1 : decode cX8_scanSign 1 = .ok (.iconst 4, 1) := by decide +kernel
theorem dX8_scanSign_2 : decode cX8_scanSign 2 = .ok (.putfield 22, 3) := by decide +kernel
theorem dX8_scanSign_5 : decode cX8_scanSign 5 = .ok (.aload_n 0, 1) := by decide +kernel
theorem dX8_scanSign_6 : decode cX8_scanSign 6 = .ok (.dup, 1) := by decide +kernel
theorem dX8_scanSign_7 : decode cX8_scanSign 7 = .ok (.getfield 19, 3) := by decide +kernel
theorem dX8_scanSign_10 : decode cX8_scanSign 10 = .ok (.iconst 1, 1) := by decide +kernel
theorem dX8_scanSign_11 : decode cX8_scanSign 11 = .ok (.iadd, 1) := by decide +kernel
theorem dX8_scanSign_12 : decode cX8_scanSign 12 = .ok (.putfield 19, 3) := by decide +kernel
theorem dX8_scanSign_15 : decode cX8_scanSign 15 = .ok (.iload_n 1, 1) := by decide +kernel
theorem dX8_scanSign_16 : decode cX8_scanSign 16 = .ok (.tableswitch 239 40 62 #[117, 126, 153, 135, 239, 144, 239, 162, 239, 239, 239, 239, 239, 239, 239, 239, 239, 239, 239, 108, 180, 171, 216], 108) := by decide +kernel
theorem dX8_scanSign_124 : decode cX8_scanSign 124 = .ok (.aload_n 0, 1) := by decide +kernel
theorem dX8_scanSign_125 : decode cX8_scanSign 125 = .ok (.bipush 17, 2) := by decide +kernel
theorem dX8_scanSign_127 : decode cX8_scanSign 127 = .ok (.putfield 25, 3) := by decide +kernel
theorem dX8_scanSign_130 : decode cX8_scanSign 130 = .ok (.goto 130, 3) := by decide +kernel
theorem dX8_scanSign_133 : decode cX8_scanSign 133 = .ok (.aload_n 0, 1) := by decide +kernel
theorem dX8_scanSign_134 : decode cX8_scanSign 134 = .ok (.bipush 15, 2) := by decide +kernel
theorem dX8_scanSign_136 : decode cX8_scanSign 136 = .ok (.putfield 25, 3) := by decide +kernel
theorem dX8_scanSign_139 : decode cX8_scanSign 139 = .ok (.goto 121, 3) := by decide +kernel
theorem dX8_scanSign_142 : decode cX8_scanSign 142 = .ok (.aload_n 0, 1) := by decide +kernel
theorem dX8_scanSign_143 : decode cX8_scanSign 143 = .ok (.bipush 16, 2) := by decide +kernel
theorem dX8_scanSign_145 : decode cX8_scanSign 145 = .ok (.putfield 25, 3) := by decide +kernel
theorem dX8_scanSign_148 : decode cX8_scanSign 148 = .ok (.goto 112, 3) := by decide +kernel
theorem dX8_scanSign_151 : decode cX8_scanSign 151 = .ok (.aload_n 0, 1) := by decide +kernel
theorem dX8_scanSign_152 : decode cX8_scanSign 152 = .ok (.bipush 11, 2) := by decide +kernel
theorem dX8_scanSign_154 : decode cX8_scanSign 154 = .ok (.putfield 25, 3) := by decide +kernel
theorem dX8_scanSign_157 : decode cX8_scanSign 157 = .ok (.goto 103, 3) := by decide +kernel
theorem dX8_scanSign_160 : decode cX8_scanSign 160 = .ok (.aload_n 0, 1) := by decide +kernel
theorem dX8_scanSign_161 : decode cX8_scanSign 161 = .ok (.bipush 12, 2) := by decide +kernel
theorem dX8_scanSign_163 : decode cX8_scanSign 163 = .ok (.putfield 25, 3) := by decide +kernel
theorem dX8_scanSign_166 : decode cX8_scanSign 166 = .ok (.goto 94, 3) := by decide +kernel
theorem dX8_scanSign_169 : decode cX8_scanSign 169 = .ok (.aload_n 0, 1) := by decide +kernel
theorem dX8_scanSign_170 : decode cX8_scanSign 170 = .ok (.bipush 13, 2) := by decide +kernel
theorem dX8_scanSign_172 : decode cX8_scanSign 172 = .ok (.putfield 25, 3) := by decide +kernel
theorem dX8_scanSign_175 : decode cX8_scanSign 175 = .ok (.goto 85, 3) := by decide +kernel
theorem dX8_scanSign_178 : decode cX8_scanSign 178 = .ok (.aload_n 0, 1) := by decide +kernel
theorem dX8_scanSign_179 : decode cX8_scanSign 179 = .ok (.bipush 14, 2) := by decide +kernel
theorem dX8_scanSign_181 : decode cX8_scanSign 181 = .ok (.putfield 25, 3) := by decide +kernel
theorem dX8_scanSign_184 : decode cX8_scanSign 184 = .ok (.goto 76, 3) := by decide +kernel
theorem dX8_scanSign_187 : decode cX8_scanSign 187 = .ok (.aload_n 0, 1) := by decide +kernel
theorem dX8_scanSign_188 : decode cX8_scanSign 188 = .ok (.bipush 7, 2) := by decide +kernel
theorem dX8_scanSign_190 : decode cX8_scanSign 190 = .ok (.putfield 25, 3) := by decide +kernel
theorem dX8_scanSign_193 : decode cX8_scanSign 193 = .ok (.goto 67, 3) := by decide +kernel
theorem dX8_scanSign_196 : decode cX8_scanSign 196 = .ok (.aload_n 0, 1) := by decide +kernel
theorem dX8_scanSign_197 : decode cX8_scanSign 197 = .ok (.aload_n 0, 1) := by decide +kernel
theorem dX8_scanSign_198 : decode cX8_scanSign 198 = .ok (.bipush 61, 2) := by decide +kernel
theorem dX8_scanSign_200 : decode cX8_scanSign 200 = .ok (.invokevirtual 84, 3) := by decide +kernel
theorem dX8_scanSign_203 : decode cX8_scanSign 203 = .ok (.ifCond .eq 8, 3) := by decide +kernel
theorem dX8_scanSign_206 : decode cX8_scanSign 206 = .ok (.bipush 6, 2) := by decide +kernel
theorem dX8_scanSign_208 : decode cX8_scanSign 208 = .ok (.goto 18, 3) := by decide +kernel
theorem dX8_scanSign_211 : decode cX8_scanSign 211 = .ok (.aload_n 0, 1) := by decide +kernel
theorem dX8_scanSign_212 : decode cX8_scanSign 212 = .ok (.bipush 62, 2) := by decide +kernel
theorem dX8_scanSign_214 : decode cX8_scanSign 214 = .ok (.invokevirtual 84, 3) := by decide +kernel
theorem dX8_scanSign_217 : decode cX8_scanSign 217 = .ok (.ifCond .eq 8, 3) := by decide +kernel
theorem dX8_scanSign_220 : decode cX8_scanSign 220 = .ok (.bipush 8, 2) := by decide +kernel
theorem dX8_scanSign_222 : decode cX8_scanSign 222 = .ok (.goto 4, 3) := by decide +kernel
theorem dX8_scanSign_225 : decode cX8_scanSign 225 = .ok (.iconst 5, 1) := by decide +kernel
theorem dX8_scanSign_226 : decode cX8_scanSign 226 = .ok (.putfield 25, 3) := by decide +kernel
theorem dX8_scanSign_229 : decode cX8_scanSign 229 = .ok (.goto 31, 3) := by decide +kernel
theorem dX8_scanSign_232 : decode cX8_scanSign 232 = .ok (.aload_n 0, 1) := by decide +kernel
theorem dX8_scanSign_233 : decode cX8_scanSign 233 = .ok (.aload_n 0, 1) := by decide +kernel
theorem dX8_scanSign_234 : decode cX8_scanSign 234 = .ok (.bipush 61, 2) := by decide +kernel
theorem dX8_scanSign_236 : decode cX8_scanSign 236 = .ok (.invokevirtual 84, 3) := by decide +kernel
theorem dX8_scanSign_239 : decode cX8_scanSign 239 = .ok (.ifCond .eq 8, 3) := by decide +kernel
theorem dX8_scanSign_242 : decode cX8_scanSign 242 = .ok (.bipush 9, 2) := by decide +kernel
theorem dX8_scanSign_244 : decode cX8_scanSign 244 = .ok (.goto 5, 3) := by decide +kernel
theorem dX8_scanSign_247 : decode cX8_scanSign 247 = .ok (.bipush 10, 2) := by decide +kernel
theorem dX8_scanSign_249 : decode cX8_scanSign 249 = .ok (.putfield 25, 3) := by decide +kernel
theorem dX8_scanSign_252 : decode cX8_scanSign 252 = .ok (.goto 8, 3) := by decide +kernel
theorem dX8_scanSign_255 : decode cX8_scanSign 255 = .ok (.aload_n 0, 1) := by decide +kernel
theorem dX8_scanSign_256 : decode cX8_scanSign 256 = .ok (.iconst 5, 1) := by decide +kernel
theorem dX8_scanSign_257 : decode cX8_scanSign 257 = .ok (.putfield 22, 3) := by decide +kernel
theorem dX8_scanSign_260 : decode cX8_scanSign 260 = .ok (.return_, 1) := by decide +kernel
noncomputable def b_X8_scanSign_0 (rec : Rk) (x1 : Int) (h : Hp) : Option (Int × Hp) :=
  lt (sI h 8 0 4 4) fun h1 =>
  ck (-2147483648 ≤ (gI h1 8 0 3) + 1 ∧ (gI h1 8 0 3) + 1 < 2147483648) <|
  lt (sI h1 8 0 3 ((gI h1 8 0 3) + 1)) fun h2 =>
  if x1 = 40 then (
    lt (sI h2 8 0 5 15) fun h3 =>
    some (0, h3)
  ) else (
  if x1 = 41 then (
    lt (sI h2 8 0 5 16) fun h4 =>
    some (0, h4)
  ) else (
  if x1 = 42 then (
    lt (sI h2 8 0 5 13) fun h5 =>
    some (0, h5)
  ) else (
  if x1 = 43 then (
    lt (sI h2 8 0 5 11) fun h6 =>
    some (0, h6)
  ) else (
  if x1 = 45 then (
    lt (sI h2 8 0 5 12) fun h7 =>
    some (0, h7)
  ) else (
  if x1 = 47 then (
    lt (sI h2 8 0 5 14) fun h8 =>
    some (0, h8)
  ) else (
  if x1 = 59 then (
    lt (sI h2 8 0 5 17) fun h9 =>
    some (0, h9)
  ) else (
  if x1 = 60 then (
    bd (f_X8_follows 61 h2) fun v10 h11 =>
    if v10 = 0 then (
      bd (f_X8_follows 62 h11) fun v12 h13 =>
      if v12 = 0 then (
        rec 1 [5] h13
      ) else (
        rec 1 [8] h13
      )
    ) else (
      rec 1 [6] h11
    )
  ) else (
  if x1 = 61 then (
    lt (sI h2 8 0 5 7) fun h14 =>
    some (0, h14)
  ) else (
  if x1 = 62 then (
    bd (f_X8_follows 61 h2) fun v15 h16 =>
    if v15 = 0 then (
      rec 2 [10] h16
    ) else (
      rec 2 [9] h16
    )
  ) else (
    lt (sI h2 8 0 4 5) fun h17 =>
    some (0, h17)
  )
  )
  )
  )
  )
  )
  )
  )
  )
  )
noncomputable def b_X8_scanSign_1 (rec : Rk) (y0 : Int) (h : Hp) : Option (Int × Hp) :=
  lt (sI h 8 0 5 y0) fun h1 =>
  some (0, h1)
noncomputable def b_X8_scanSign_2 (rec : Rk) (y0 : Int) (h : Hp) : Option (Int × Hp) :=
  lt (sI h 8 0 5 y0) fun h1 =>
  some (0, h1)
noncomputable def g_X8_scanSign (n : Nat) : Rk := Nat.rec (motive := fun _ => Rk) (fun _ _ _ => none) (fun _ rec k l h => if k = 0 then b_X8_scanSign_0 rec (l.getD 0 0) h else if k = 1 then b_X8_scanSign_1 rec (l.getD 0 0) h else if k = 2 then b_X8_scanSign_2 rec (l.getD 0 0) h else none) n
noncomputable def f_X8_scanSign (x1 : Int) (h : Hp) : Option (Int × Hp) := g_X8_scanSign FU 0 [x1] h
set_option maxHeartbeats 4000000 in
set_option maxRecDepth 100000 in
theorem t_X8_scanSign_0 (E : xE) (d : Nat) (rec : Rk) (r : Int × Hp) (hr_226 : ∀ (y0 : Int) (h : Hp), Lay h → rec 1 [y0] h = some r → X E mX8_scanSign (d + 2) (0, 0) (0, 0) 226 [none, none] [xi y0, xr 8 0] h (PoV r)) (hr_249 : ∀ (y0 : Int) (h : Hp), Lay h → rec 2 [y0] h = some r → X E mX8_scanSign (d + 2) (0, 0) (0, 0) 249 [none, none] [xi y0, xr 8 0] h (PoV r)) (x1 : Int) (h : Hp) (hL : Lay h) (hF : b_X8_scanSign_0 rec x1 h = some r) : X E mX8_scanSign (d + 2) (0, 0) (0, 0) 0 [some (xr 8 0), some (xi x1)] [] h (PoV r) := by
  unfold b_X8_scanSign_0 at hF
  refine x_aload_n (i := 0) (b := 1) dX8_scanSign_0 rfl rfl rfl ?_
  refine x_iconst (n := 4) (b := 2) dX8_scanSign_1 (by decide) rfl ?_
  refine x_putI (b := 5) fk_X8_22 dX8_scanSign_2 rfl rfl 4 rfl ?_
  obtain ⟨h1, e_h1, hF⟩ := lt_e hF
  refine x_hp (h2 := h1) e_h1 ?_
  replace hL : Lay h1 := by rw [← e_h1]; exact hL
  refine x_aload_n (i := 0) (b := 6) dX8_scanSign_5 rfl rfl rfl ?_
  refine x_dup (b := 7) dX8_scanSign_6 rfl rfl ?_
  refine x_getI (v := gI h1 8 0 3) (b := 10) fk_X8_19 dX8_scanSign_7 (by decide) rfl rfl ?_
  refine x_iconst (n := 1) (b := 11) dX8_scanSign_10 (by decide) rfl ?_
  obtain ⟨hs, hF⟩ := ck_e hF
  refine x_iadd (b := 12) dX8_scanSign_11 hs rfl ?_
  refine x_putI (b := 15) fk_X8_19 dX8_scanSign_12 rfl rfl 3 rfl ?_
  obtain ⟨h2, e_h2, hF⟩ := lt_e hF
  refine x_hp (h2 := h2) e_h2 ?_
  replace hL : Lay h2 := by rw [← e_h2]; exact hL
  refine x_iload_n (i := 1) (b := 16) dX8_scanSign_15 rfl rfl rfl ?_
  by_cases hw16_40 : x1 = 40
  · replace hF := br_T hw16_40 hF
    refine x_tableIn (tgt := 133) dX8_scanSign_16 40 hw16_40 ⟨by decide, by decide⟩ rfl (by decide) ?_
    refine x_aload_n (i := 0) (b := 134) dX8_scanSign_133 rfl rfl rfl ?_
    refine x_bipush (n := 15) (b := 136) dX8_scanSign_134 (by decide) rfl ?_
    refine x_putI (b := 139) fk_X8_25 dX8_scanSign_136 rfl rfl 5 rfl ?_
    obtain ⟨h3, e_h3, hF⟩ := lt_e hF
    refine x_hp (h2 := h3) e_h3 ?_
    replace hL : Lay h3 := by rw [← e_h3]; exact hL
    refine x_goto (tgt := 260) dX8_scanSign_139 (by decide) ?_
    refine x_return dX8_scanSign_260 rfl ⟨Nat.le_refl _, Nat.le_refl _⟩ ?_
    cases hF
    exact ⟨rfl, rfl, hL⟩
  replace hF := br_F hw16_40 hF
  by_cases hw16_41 : x1 = 41
  · replace hF := br_T hw16_41 hF
    refine x_tableIn (tgt := 142) dX8_scanSign_16 41 hw16_41 ⟨by decide, by decide⟩ rfl (by decide) ?_
    refine x_aload_n (i := 0) (b := 143) dX8_scanSign_142 rfl rfl rfl ?_
    refine x_bipush (n := 16) (b := 145) dX8_scanSign_143 (by decide) rfl ?_
    refine x_putI (b := 148) fk_X8_25 dX8_scanSign_145 rfl rfl 5 rfl ?_
    obtain ⟨h4, e_h4, hF⟩ := lt_e hF
    refine x_hp (h2 := h4) e_h4 ?_
    replace hL : Lay h4 := by rw [← e_h4]; exact hL
    refine x_goto (tgt := 260) dX8_scanSign_148 (by decide) ?_
    refine x_return dX8_scanSign_260 rfl ⟨Nat.le_refl _, Nat.le_refl _⟩ ?_
    cases hF
    exact ⟨rfl, rfl, hL⟩
  replace hF := br_F hw16_41 hF
  by_cases hw16_42 : x1 = 42
  · replace hF := br_T hw16_42 hF
    refine x_tableIn (tgt := 169) dX8_scanSign_16 42 hw16_42 ⟨by decide, by decide⟩ rfl (by decide) ?_
    refine x_aload_n (i := 0) (b := 170) dX8_scanSign_169 rfl rfl rfl ?_
    refine x_bipush (n := 13) (b := 172) dX8_scanSign_170 (by decide) rfl ?_
    refine x_putI (b := 175) fk_X8_25 dX8_scanSign_172 rfl rfl 5 rfl ?_
    obtain ⟨h5, e_h5, hF⟩ := lt_e hF
    refine x_hp (h2 := h5) e_h5 ?_
    replace hL : Lay h5 := by rw [← e_h5]; exact hL
    refine x_goto (tgt := 260) dX8_scanSign_175 (by decide) ?_
    refine x_return dX8_scanSign_260 rfl ⟨Nat.le_refl _, Nat.le_refl _⟩ ?_
    cases hF
    exact ⟨rfl, rfl, hL⟩
  replace hF := br_F hw16_42 hF
  by_cases hw16_43 : x1 = 43
  · replace hF := br_T hw16_43 hF
    refine x_tableIn (tgt := 151) dX8_scanSign_16 43 hw16_43 ⟨by decide, by decide⟩ rfl (by decide) ?_
    refine x_aload_n (i := 0) (b := 152) dX8_scanSign_151 rfl rfl rfl ?_
    refine x_bipush (n := 11) (b := 154) dX8_scanSign_152 (by decide) rfl ?_
    refine x_putI (b := 157) fk_X8_25 dX8_scanSign_154 rfl rfl 5 rfl ?_
    obtain ⟨h6, e_h6, hF⟩ := lt_e hF
    refine x_hp (h2 := h6) e_h6 ?_
    replace hL : Lay h6 := by rw [← e_h6]; exact hL
    refine x_goto (tgt := 260) dX8_scanSign_157 (by decide) ?_
    refine x_return dX8_scanSign_260 rfl ⟨Nat.le_refl _, Nat.le_refl _⟩ ?_
    cases hF
    exact ⟨rfl, rfl, hL⟩
  replace hF := br_F hw16_43 hF
  by_cases hw16_45 : x1 = 45
  · replace hF := br_T hw16_45 hF
    refine x_tableIn (tgt := 160) dX8_scanSign_16 45 hw16_45 ⟨by decide, by decide⟩ rfl (by decide) ?_
    refine x_aload_n (i := 0) (b := 161) dX8_scanSign_160 rfl rfl rfl ?_
    refine x_bipush (n := 12) (b := 163) dX8_scanSign_161 (by decide) rfl ?_
    refine x_putI (b := 166) fk_X8_25 dX8_scanSign_163 rfl rfl 5 rfl ?_
    obtain ⟨h7, e_h7, hF⟩ := lt_e hF
    refine x_hp (h2 := h7) e_h7 ?_
    replace hL : Lay h7 := by rw [← e_h7]; exact hL
    refine x_goto (tgt := 260) dX8_scanSign_166 (by decide) ?_
    refine x_return dX8_scanSign_260 rfl ⟨Nat.le_refl _, Nat.le_refl _⟩ ?_
    cases hF
    exact ⟨rfl, rfl, hL⟩
  replace hF := br_F hw16_45 hF
  by_cases hw16_47 : x1 = 47
  · replace hF := br_T hw16_47 hF
    refine x_tableIn (tgt := 178) dX8_scanSign_16 47 hw16_47 ⟨by decide, by decide⟩ rfl (by decide) ?_
    refine x_aload_n (i := 0) (b := 179) dX8_scanSign_178 rfl rfl rfl ?_
    refine x_bipush (n := 14) (b := 181) dX8_scanSign_179 (by decide) rfl ?_
    refine x_putI (b := 184) fk_X8_25 dX8_scanSign_181 rfl rfl 5 rfl ?_
    obtain ⟨h8, e_h8, hF⟩ := lt_e hF
    refine x_hp (h2 := h8) e_h8 ?_
    replace hL : Lay h8 := by rw [← e_h8]; exact hL
    refine x_goto (tgt := 260) dX8_scanSign_184 (by decide) ?_
    refine x_return dX8_scanSign_260 rfl ⟨Nat.le_refl _, Nat.le_refl _⟩ ?_
    cases hF
    exact ⟨rfl, rfl, hL⟩
  replace hF := br_F hw16_47 hF
  by_cases hw16_59 : x1 = 59
  · replace hF := br_T hw16_59 hF
    refine x_tableIn (tgt := 124) dX8_scanSign_16 59 hw16_59 ⟨by decide, by decide⟩ rfl (by decide) ?_
    refine x_aload_n (i := 0) (b := 125) dX8_scanSign_124 rfl rfl rfl ?_
    refine x_bipush (n := 17) (b := 127) dX8_scanSign_125 (by decide) rfl ?_
    refine x_putI (b := 130) fk_X8_25 dX8_scanSign_127 rfl rfl 5 rfl ?_
    obtain ⟨h9, e_h9, hF⟩ := lt_e hF
    refine x_hp (h2 := h9) e_h9 ?_
    replace hL : Lay h9 := by rw [← e_h9]; exact hL
    refine x_goto (tgt := 260) dX8_scanSign_130 (by decide) ?_
    refine x_return dX8_scanSign_260 rfl ⟨Nat.le_refl _, Nat.le_refl _⟩ ?_
    cases hF
    exact ⟨rfl, rfl, hL⟩
  replace hF := br_F hw16_59 hF
  by_cases hw16_60 : x1 = 60
  · replace hF := br_T hw16_60 hF
    refine x_tableIn (tgt := 196) dX8_scanSign_16 60 hw16_60 ⟨by decide, by decide⟩ rfl (by decide) ?_
    refine x_aload_n (i := 0) (b := 197) dX8_scanSign_196 rfl rfl rfl ?_
    refine x_aload_n (i := 0) (b := 198) dX8_scanSign_197 rfl rfl rfl ?_
    refine x_bipush (n := 61) (b := 200) dX8_scanSign_198 (by decide) rfl ?_
    obtain ⟨v10, h11, hq, hF⟩ := bd_e hF
    refine x_callV (as := [xi 61]) (rest := [xr 8 0]) (b := 203) (c_X8_follows d 61 h2 _ hL hq) dX8_scanSign_200 cw_X8_84 ⟨_, _, rfl, Nat.le_of_ble_eq_true rfl⟩ rfl rfl (Nat.le_of_ble_eq_true rfl) ⟨Nat.le_refl _, Nat.le_refl _⟩ rfl (fun rv hh hp _ => ?_)
    obtain ⟨rfl, rfl, hL⟩ := hp
    refine x_if_eq (tgt := 211) (b := 206) dX8_scanSign_203 (by decide) rfl (fun hc => ?_) (fun hc => ?_)
    · replace hF := br_T hc hF
      refine x_aload_n (i := 0) (b := 212) dX8_scanSign_211 rfl rfl rfl ?_
      refine x_bipush (n := 62) (b := 214) dX8_scanSign_212 (by decide) rfl ?_
      obtain ⟨v12, h13, hq, hF⟩ := bd_e hF
      refine x_callV (as := [xi 62]) (rest := [xr 8 0]) (b := 217) (c_X8_follows d 62 h11 _ hL hq) dX8_scanSign_214 cw_X8_84 ⟨_, _, rfl, Nat.le_of_ble_eq_true rfl⟩ rfl rfl (Nat.le_of_ble_eq_true rfl) ⟨Nat.le_refl _, Nat.le_refl _⟩ rfl (fun rv hh hp _ => ?_)
      obtain ⟨rfl, rfl, hL⟩ := hp
      refine x_if_eq (tgt := 225) (b := 220) dX8_scanSign_217 (by decide) rfl (fun hc => ?_) (fun hc => ?_)
      · replace hF := br_T hc hF
        refine x_iconst (n := 5) (b := 226) dX8_scanSign_225 (by decide) rfl ?_
        exact x_dp (ls2 := [none, none]) trivial (hr_226 5 h13 hL hF)
      · replace hF := br_F hc hF
        refine x_bipush (n := 8) (b := 222) dX8_scanSign_220 (by decide) rfl ?_
        refine x_goto (tgt := 226) dX8_scanSign_222 (by decide) ?_
        exact x_dp (ls2 := [none, none]) trivial (hr_226 8 h13 hL hF)
    · replace hF := br_F hc hF
      refine x_bipush (n := 6) (b := 208) dX8_scanSign_206 (by decide) rfl ?_
      refine x_goto (tgt := 226) dX8_scanSign_208 (by decide) ?_
      exact x_dp (ls2 := [none, none]) trivial (hr_226 6 h11 hL hF)
  replace hF := br_F hw16_60 hF
  by_cases hw16_61 : x1 = 61
  · replace hF := br_T hw16_61 hF
    refine x_tableIn (tgt := 187) dX8_scanSign_16 61 hw16_61 ⟨by decide, by decide⟩ rfl (by decide) ?_
    refine x_aload_n (i := 0) (b := 188) dX8_scanSign_187 rfl rfl rfl ?_
    refine x_bipush (n := 7) (b := 190) dX8_scanSign_188 (by decide) rfl ?_
    refine x_putI (b := 193) fk_X8_25 dX8_scanSign_190 rfl rfl 5 rfl ?_
    obtain ⟨h14, e_h14, hF⟩ := lt_e hF
    refine x_hp (h2 := h14) e_h14 ?_
    replace hL : Lay h14 := by rw [← e_h14]; exact hL
    refine x_goto (tgt := 260) dX8_scanSign_193 (by decide) ?_
    refine x_return dX8_scanSign_260 rfl ⟨Nat.le_refl _, Nat.le_refl _⟩ ?_
    cases hF
    exact ⟨rfl, rfl, hL⟩
  replace hF := br_F hw16_61 hF
  by_cases hw16_62 : x1 = 62
  · replace hF := br_T hw16_62 hF
    refine x_tableIn (tgt := 232) dX8_scanSign_16 62 hw16_62 ⟨by decide, by decide⟩ rfl (by decide) ?_
    refine x_aload_n (i := 0) (b := 233) dX8_scanSign_232 rfl rfl rfl ?_
    refine x_aload_n (i := 0) (b := 234) dX8_scanSign_233 rfl rfl rfl ?_
    refine x_bipush (n := 61) (b := 236) dX8_scanSign_234 (by decide) rfl ?_
    obtain ⟨v15, h16, hq, hF⟩ := bd_e hF
    refine x_callV (as := [xi 61]) (rest := [xr 8 0]) (b := 239) (c_X8_follows d 61 h2 _ hL hq) dX8_scanSign_236 cw_X8_84 ⟨_, _, rfl, Nat.le_of_ble_eq_true rfl⟩ rfl rfl (Nat.le_of_ble_eq_true rfl) ⟨Nat.le_refl _, Nat.le_refl _⟩ rfl (fun rv hh hp _ => ?_)
    obtain ⟨rfl, rfl, hL⟩ := hp
    refine x_if_eq (tgt := 247) (b := 242) dX8_scanSign_239 (by decide) rfl (fun hc => ?_) (fun hc => ?_)
    · replace hF := br_T hc hF
      refine x_bipush (n := 10) (b := 249) dX8_scanSign_247 (by decide) rfl ?_
      exact x_dp (ls2 := [none, none]) trivial (hr_249 10 h16 hL hF)
    · replace hF := br_F hc hF
      refine x_bipush (n := 9) (b := 244) dX8_scanSign_242 (by decide) rfl ?_
      refine x_goto (tgt := 249) dX8_scanSign_244 (by decide) ?_
      exact x_dp (ls2 := [none, none]) trivial (hr_249 9 h16 hL hF)
  replace hF := br_F hw16_62 hF
  rcases (show x1 = 44 ∨ x1 = 46 ∨ x1 = 48 ∨ x1 = 49 ∨ x1 = 50 ∨ x1 = 51 ∨ x1 = 52 ∨ x1 = 53 ∨ x1 = 54 ∨ x1 = 55 ∨ x1 = 56 ∨ x1 = 57 ∨ x1 = 58 ∨ (x1 < 40 ∨ 62 < x1) by omega) with hw | hw | hw | hw | hw | hw | hw | hw | hw | hw | hw | hw | hw | hw
  · refine x_tableIn (tgt := 255) dX8_scanSign_16 44 hw ⟨by decide, by decide⟩ rfl (by decide) ?_
    refine x_aload_n (i := 0) (b := 256) dX8_scanSign_255 rfl rfl rfl ?_
    refine x_iconst (n := 5) (b := 257) dX8_scanSign_256 (by decide) rfl ?_
    refine x_putI (b := 260) fk_X8_22 dX8_scanSign_257 rfl rfl 4 rfl ?_
    obtain ⟨h17, e_h17, hF⟩ := lt_e hF
    refine x_hp (h2 := h17) e_h17 ?_
    replace hL : Lay h17 := by rw [← e_h17]; exact hL
    refine x_return dX8_scanSign_260 rfl ⟨Nat.le_refl _, Nat.le_refl _⟩ ?_
    cases hF
    exact ⟨rfl, rfl, hL⟩
  · refine x_tableIn (tgt := 255) dX8_scanSign_16 46 hw ⟨by decide, by decide⟩ rfl (by decide) ?_
    refine x_aload_n (i := 0) (b := 256) dX8_scanSign_255 rfl rfl rfl ?_
    refine x_iconst (n := 5) (b := 257) dX8_scanSign_256 (by decide) rfl ?_
    refine x_putI (b := 260) fk_X8_22 dX8_scanSign_257 rfl rfl 4 rfl ?_
    obtain ⟨h18, e_h18, hF⟩ := lt_e hF
    refine x_hp (h2 := h18) e_h18 ?_
    replace hL : Lay h18 := by rw [← e_h18]; exact hL
    refine x_return dX8_scanSign_260 rfl ⟨Nat.le_refl _, Nat.le_refl _⟩ ?_
    cases hF
    exact ⟨rfl, rfl, hL⟩
  · refine x_tableIn (tgt := 255) dX8_scanSign_16 48 hw ⟨by decide, by decide⟩ rfl (by decide) ?_
    refine x_aload_n (i := 0) (b := 256) dX8_scanSign_255 rfl rfl rfl ?_
    refine x_iconst (n := 5) (b := 257) dX8_scanSign_256 (by decide) rfl ?_
    refine x_putI (b := 260) fk_X8_22 dX8_scanSign_257 rfl rfl 4 rfl ?_
    obtain ⟨h19, e_h19, hF⟩ := lt_e hF
    refine x_hp (h2 := h19) e_h19 ?_
    replace hL : Lay h19 := by rw [← e_h19]; exact hL
    refine x_return dX8_scanSign_260 rfl ⟨Nat.le_refl _, Nat.le_refl _⟩ ?_
    cases hF
    exact ⟨rfl, rfl, hL⟩
  · refine x_tableIn (tgt := 255) dX8_scanSign_16 49 hw ⟨by decide, by decide⟩ rfl (by decide) ?_
    refine x_aload_n (i := 0) (b := 256) dX8_scanSign_255 rfl rfl rfl ?_
    refine x_iconst (n := 5) (b := 257) dX8_scanSign_256 (by decide) rfl ?_
    refine x_putI (b := 260) fk_X8_22 dX8_scanSign_257 rfl rfl 4 rfl ?_
    obtain ⟨h20, e_h20, hF⟩ := lt_e hF
    refine x_hp (h2 := h20) e_h20 ?_
    replace hL : Lay h20 := by rw [← e_h20]; exact hL
    refine x_return dX8_scanSign_260 rfl ⟨Nat.le_refl _, Nat.le_refl _⟩ ?_
    cases hF
    exact ⟨rfl, rfl, hL⟩
  · refine x_tableIn (tgt := 255) dX8_scanSign_16 50 hw ⟨by decide, by decide⟩ rfl (by decide) ?_
    refine x_aload_n (i := 0) (b := 256) dX8_scanSign_255 rfl rfl rfl ?_
    refine x_iconst (n := 5) (b := 257) dX8_scanSign_256 (by decide) rfl ?_
    refine x_putI (b := 260) fk_X8_22 dX8_scanSign_257 rfl rfl 4 rfl ?_
    obtain ⟨h21, e_h21, hF⟩ := lt_e hF
    refine x_hp (h2 := h21) e_h21 ?_
    replace hL : Lay h21 := by rw [← e_h21]; exact hL
    refine x_return dX8_scanSign_260 rfl ⟨Nat.le_refl _, Nat.le_refl _⟩ ?_
    cases hF
    exact ⟨rfl, rfl, hL⟩
  · refine x_tableIn (tgt := 255) dX8_scanSign_16 51 hw ⟨by decide, by decide⟩ rfl (by decide) ?_
    refine x_aload_n (i := 0) (b := 256) dX8_scanSign_255 rfl rfl rfl ?_
    refine x_iconst (n := 5) (b := 257) dX8_scanSign_256 (by decide) rfl ?_
    refine x_putI (b := 260) fk_X8_22 dX8_scanSign_257 rfl rfl 4 rfl ?_
    obtain ⟨h22, e_h22, hF⟩ := lt_e hF
    refine x_hp (h2 := h22) e_h22 ?_
    replace hL : Lay h22 := by rw [← e_h22]; exact hL
    refine x_return dX8_scanSign_260 rfl ⟨Nat.le_refl _, Nat.le_refl _⟩ ?_
    cases hF
    exact ⟨rfl, rfl, hL⟩
  · refine x_tableIn (tgt := 255) dX8_scanSign_16 52 hw ⟨by decide, by decide⟩ rfl (by decide) ?_
    refine x_aload_n (i := 0) (b := 256) dX8_scanSign_255 rfl rfl rfl ?_
    refine x_iconst (n := 5) (b := 257) dX8_scanSign_256 (by decide) rfl ?_
    refine x_putI (b := 260) fk_X8_22 dX8_scanSign_257 rfl rfl 4 rfl ?_
    obtain ⟨h23, e_h23, hF⟩ := lt_e hF
    refine x_hp (h2 := h23) e_h23 ?_
    replace hL : Lay h23 := by rw [← e_h23]; exact hL
    refine x_return dX8_scanSign_260 rfl ⟨Nat.le_refl _, Nat.le_refl _⟩ ?_
    cases hF
    exact ⟨rfl, rfl, hL⟩
  · refine x_tableIn (tgt := 255) dX8_scanSign_16 53 hw ⟨by decide, by decide⟩ rfl (by decide) ?_
    refine x_aload_n (i := 0) (b := 256) dX8_scanSign_255 rfl rfl rfl ?_
    refine x_iconst (n := 5) (b := 257) dX8_scanSign_256 (by decide) rfl ?_
    refine x_putI (b := 260) fk_X8_22 dX8_scanSign_257 rfl rfl 4 rfl ?_
    obtain ⟨h24, e_h24, hF⟩ := lt_e hF
    refine x_hp (h2 := h24) e_h24 ?_
    replace hL : Lay h24 := by rw [← e_h24]; exact hL
    refine x_return dX8_scanSign_260 rfl ⟨Nat.le_refl _, Nat.le_refl _⟩ ?_
    cases hF
    exact ⟨rfl, rfl, hL⟩
  · refine x_tableIn (tgt := 255) dX8_scanSign_16 54 hw ⟨by decide, by decide⟩ rfl (by decide) ?_
    refine x_aload_n (i := 0) (b := 256) dX8_scanSign_255 rfl rfl rfl ?_
    refine x_iconst (n := 5) (b := 257) dX8_scanSign_256 (by decide) rfl ?_
    refine x_putI (b := 260) fk_X8_22 dX8_scanSign_257 rfl rfl 4 rfl ?_
    obtain ⟨h25, e_h25, hF⟩ := lt_e hF
    refine x_hp (h2 := h25) e_h25 ?_
    replace hL : Lay h25 := by rw [← e_h25]; exact hL
    refine x_return dX8_scanSign_260 rfl ⟨Nat.le_refl _, Nat.le_refl _⟩ ?_
    cases hF
    exact ⟨rfl, rfl, hL⟩
  · refine x_tableIn (tgt := 255) dX8_scanSign_16 55 hw ⟨by decide, by decide⟩ rfl (by decide) ?_
    refine x_aload_n (i := 0) (b := 256) dX8_scanSign_255 rfl rfl rfl ?_
    refine x_iconst (n := 5) (b := 257) dX8_scanSign_256 (by decide) rfl ?_
    refine x_putI (b := 260) fk_X8_22 dX8_scanSign_257 rfl rfl 4 rfl ?_
    obtain ⟨h26, e_h26, hF⟩ := lt_e hF
    refine x_hp (h2 := h26) e_h26 ?_
    replace hL : Lay h26 := by rw [← e_h26]; exact hL
    refine x_return dX8_scanSign_260 rfl ⟨Nat.le_refl _, Nat.le_refl _⟩ ?_
    cases hF
    exact ⟨rfl, rfl, hL⟩
  · refine x_tableIn (tgt := 255) dX8_scanSign_16 56 hw ⟨by decide, by decide⟩ rfl (by decide) ?_
    refine x_aload_n (i := 0) (b := 256) dX8_scanSign_255 rfl rfl rfl ?_
    refine x_iconst (n := 5) (b := 257) dX8_scanSign_256 (by decide) rfl ?_
    refine x_putI (b := 260) fk_X8_22 dX8_scanSign_257 rfl rfl 4 rfl ?_
    obtain ⟨h27, e_h27, hF⟩ := lt_e hF
    refine x_hp (h2 := h27) e_h27 ?_
    replace hL : Lay h27 := by rw [← e_h27]; exact hL
    refine x_return dX8_scanSign_260 rfl ⟨Nat.le_refl _, Nat.le_refl _⟩ ?_
    cases hF
    exact ⟨rfl, rfl, hL⟩
  · refine x_tableIn (tgt := 255) dX8_scanSign_16 57 hw ⟨by decide, by decide⟩ rfl (by decide) ?_
    refine x_aload_n (i := 0) (b := 256) dX8_scanSign_255 rfl rfl rfl ?_
    refine x_iconst (n := 5) (b := 257) dX8_scanSign_256 (by decide) rfl ?_
    refine x_putI (b := 260) fk_X8_22 dX8_scanSign_257 rfl rfl 4 rfl ?_
    obtain ⟨h28, e_h28, hF⟩ := lt_e hF
    refine x_hp (h2 := h28) e_h28 ?_
    replace hL : Lay h28 := by rw [← e_h28]; exact hL
    refine x_return dX8_scanSign_260 rfl ⟨Nat.le_refl _, Nat.le_refl _⟩ ?_
    cases hF
    exact ⟨rfl, rfl, hL⟩
  · refine x_tableIn (tgt := 255) dX8_scanSign_16 58 hw ⟨by decide, by decide⟩ rfl (by decide) ?_
    refine x_aload_n (i := 0) (b := 256) dX8_scanSign_255 rfl rfl rfl ?_
    refine x_iconst (n := 5) (b := 257) dX8_scanSign_256 (by decide) rfl ?_
    refine x_putI (b := 260) fk_X8_22 dX8_scanSign_257 rfl rfl 4 rfl ?_
    obtain ⟨h29, e_h29, hF⟩ := lt_e hF
    refine x_hp (h2 := h29) e_h29 ?_
    replace hL : Lay h29 := by rw [← e_h29]; exact hL
    refine x_return dX8_scanSign_260 rfl ⟨Nat.le_refl _, Nat.le_refl _⟩ ?_
    cases hF
    exact ⟨rfl, rfl, hL⟩
  · refine x_tableOut (tgt := 255) dX8_scanSign_16 hw (by decide) ?_
    refine x_aload_n (i := 0) (b := 256) dX8_scanSign_255 rfl rfl rfl ?_
    refine x_iconst (n := 5) (b := 257) dX8_scanSign_256 (by decide) rfl ?_
    refine x_putI (b := 260) fk_X8_22 dX8_scanSign_257 rfl rfl 4 rfl ?_
    obtain ⟨h30, e_h30, hF⟩ := lt_e hF
    refine x_hp (h2 := h30) e_h30 ?_
    replace hL : Lay h30 := by rw [← e_h30]; exact hL
    refine x_return dX8_scanSign_260 rfl ⟨Nat.le_refl _, Nat.le_refl _⟩ ?_
    cases hF
    exact ⟨rfl, rfl, hL⟩
set_option maxHeartbeats 4000000 in
set_option maxRecDepth 100000 in
theorem t_X8_scanSign_1 (E : xE) (d : Nat) (rec : Rk) (r : Int × Hp) (y0 : Int) (h : Hp) (hL : Lay h) (hF : b_X8_scanSign_1 rec y0 h = some r) : X E mX8_scanSign (d + 2) (0, 0) (0, 0) 226 [none, none] [xi y0, xr 8 0] h (PoV r) := by
  unfold b_X8_scanSign_1 at hF
  refine x_putI (b := 229) fk_X8_25 dX8_scanSign_226 rfl rfl 5 rfl ?_
  obtain ⟨h1, e_h1, hF⟩ := lt_e hF
  refine x_hp (h2 := h1) e_h1 ?_
  replace hL : Lay h1 := by rw [← e_h1]; exact hL
  refine x_goto (tgt := 260) dX8_scanSign_229 (by decide) ?_
  refine x_return dX8_scanSign_260 rfl ⟨Nat.le_refl _, Nat.le_refl _⟩ ?_
  cases hF
  exact ⟨rfl, rfl, hL⟩
set_option maxHeartbeats 4000000 in
set_option maxRecDepth 100000 in
theorem t_X8_scanSign_2 (E : xE) (d : Nat) (rec : Rk) (r : Int × Hp) (y0 : Int) (h : Hp) (hL : Lay h) (hF : b_X8_scanSign_2 rec y0 h = some r) : X E mX8_scanSign (d + 2) (0, 0) (0, 0) 249 [none, none] [xi y0, xr 8 0] h (PoV r) := by
  unfold b_X8_scanSign_2 at hF
  refine x_putI (b := 252) fk_X8_25 dX8_scanSign_249 rfl rfl 5 rfl ?_
  obtain ⟨h1, e_h1, hF⟩ := lt_e hF
  refine x_hp (h2 := h1) e_h1 ?_
  replace hL : Lay h1 := by rw [← e_h1]; exact hL
  refine x_goto (tgt := 260) dX8_scanSign_252 (by decide) ?_
  refine x_return dX8_scanSign_260 rfl ⟨Nat.le_refl _, Nat.le_refl _⟩ ?_
  cases hF
  exact ⟨rfl, rfl, hL⟩
set_option maxHeartbeats 4000000 in
set_option maxRecDepth 100000 in
theorem u_X8_scanSign (E : xE) (d : Nat) (r : Int × Hp) : ∀ n : Nat, (∀ (x1 : Int) (h : Hp), Lay h → g_X8_scanSign n 0 [x1] h = some r → X E mX8_scanSign (d + 2) (0, 0) (0, 0) 0 [some (xr 8 0), some (xi x1)] [] h (PoV r)) ∧ (∀ (y0 : Int) (h : Hp), Lay h → g_X8_scanSign n 1 [y0] h = some r → X E mX8_scanSign (d + 2) (0, 0) (0, 0) 226 [none, none] [xi y0, xr 8 0] h (PoV r)) ∧ (∀ (y0 : Int) (h : Hp), Lay h → g_X8_scanSign n 2 [y0] h = some r → X E mX8_scanSign (d + 2) (0, 0) (0, 0) 249 [none, none] [xi y0, xr 8 0] h (PoV r)) := by
  intro n
  induction n with
  | zero => exact ⟨fun _ _ _ hF => no_e (r := r) hF, fun _ _ _ hF => no_e (r := r) hF, fun _ _ _ hF => no_e (r := r) hF⟩
  | succ n ih => exact ⟨fun x1 h hL hF => t_X8_scanSign_0 E d (g_X8_scanSign n) r ih.2.1 ih.2.2 x1 h hL hF, fun y0 h hL hF => t_X8_scanSign_1 E d (g_X8_scanSign n) r  y0 h hL hF, fun y0 h hL hF => t_X8_scanSign_2 E d (g_X8_scanSign n) r  y0 h hL hF⟩
theorem c_X8_scanSign (d : Nat) (x1 : Int) (h : Hp) (r : Int × Hp) (hL : Lay h) (hF : f_X8_scanSign x1 h = some r) : Sp mX8_scanSign (d + 2) (0, 0) [xr 8 0, xi x1] h (PoV r) :=
  sp_of (by decide) rfl (Nat.le_of_ble_eq_true rfl) (ls := [some (xr 8 0), some (xi x1)]) rfl (fun E _ => (u_X8_scanSign E d r FU).1 x1 h hL hF)
theorem dX8_scanWord_0 : decode cX8_scanWord 0 = .ok (.iconst 0, 1) := by decide +kernel
theorem dX8_scanWord_1 : decode cX8_scanWord 1 = .ok (.istore_n 1, 1) := by decide +kernel
theorem dX8_scanWord_2 : decode cX8_scanWord 2 = .ok (.aload_n 0, 1) := by decide +kernel
theorem dX8_scanWord_3 : decode cX8_scanWord 3 = .ok (.getfield 19, 3) := by decide +kernel
theorem dX8_scanWord_6 : decode cX8_scanWord 6 = .ok (.aload_n 0, 1) := by decide +kernel
theorem dX8_scanWord_7 : decode cX8_scanWord 7 = .ok (.getfield 15, 3) := by decide +kernel
theorem dX8_scanWord_10 : decode cX8_scanWord 10 = .ok (.if_icmp .ge 72, 3) := by decide +kernel
theorem dX8_scanWord_13 : decode cX8_scanWord 13 = .ok (.aload_n 0, 1) := by decide +kernel
theorem dX8_scanWord_14 : decode cX8_scanWord 14 = .ok (.getfield 40, 3) := by decide +kernel
theorem dX8_scanWord_17 : decode cX8_scanWord 17 = .ok (.aload_n 0, 1) := by decide +kernel
theorem dX8_scanWord_18 : decode cX8_scanWord 18 = .ok (.getfield 19, 3) := by decide +kernel
theorem dX8_scanWord_21 : decode cX8_scanWord 21 = .ok (.baload, 1) := by decide +kernel
theorem dX8_scanWord_22 : decode cX8_scanWord 22 = .ok (.invokestatic 64, 3) := by decide +kernel
theorem dX8_scanWord_25 : decode cX8_scanWord 25 = .ok (.ifCond .eq 57, 3) := by decide +kernel
theorem dX8_scanWord_28 : decode cX8_scanWord 28 = .ok (.aload_n 0, 1) := by decide +kernel
theorem dX8_scanWord_29 : decode cX8_scanWord 29 = .ok (.iload_n 1, 1) := by decide +kernel
theorem dX8_scanWord_30 : decode cX8_scanWord 30 = .ok (.bipush 6, 2) := by decide +kernel
theorem dX8_scanWord_32 : decode cX8_scanWord 32 = .ok (.if_icmp .ge 27, 3) := by decide +kernel
theorem dX8_scanWord_35 : decode cX8_scanWord 35 = .ok (.aload_n 0, 1) := by decide +kernel
theorem dX8_scanWord_36 : decode cX8_scanWord 36 = .ok (.getfield 25, 3) := by decide +kernel
theorem dX8_scanWord_39 : decode cX8_scanWord 39 = .ok (.iconst 5, 1) := by decide +kernel
theorem dX8_scanWord_40 : decode cX8_scanWord 40 = .ok (.ishl, 1) := by decide +kernel
theorem dX8_scanWord_41 : decode cX8_scanWord 41 = .ok (.aload_n 0, 1) := by decide +kernel
theorem dX8_scanWord_42 : decode cX8_scanWord 42 = .ok (.getfield 40, 3) := by decide +kernel
theorem dX8_scanWord_45 : decode cX8_scanWord 45 = .ok (.aload_n 0, 1) := by decide +kernel
theorem dX8_scanWord_46 : decode cX8_scanWord 46 = .ok (.getfield 19, 3) := by decide +kernel
theorem dX8_scanWord_49 : decode cX8_scanWord 49 = .ok (.baload, 1) := by decide +kernel
theorem dX8_scanWord_50 : decode cX8_scanWord 50 = .ok (.bipush 97, 2) := by decide +kernel
theorem dX8_scanWord_52 : decode cX8_scanWord 52 = .ok (.isub, 1) := by decide +kernel
theorem dX8_scanWord_53 : decode cX8_scanWord 53 = .ok (.iconst 1, 1) := by decide +kernel
theorem dX8_scanWord_54 : decode cX8_scanWord 54 = .ok (.iadd, 1) := by decide +kernel
theorem dX8_scanWord_55 : decode cX8_scanWord 55 = .ok (.ior, 1) := by decide +kernel
theorem dX8_scanWord_56 : decode cX8_scanWord 56 = .ok (.goto 7, 3) := by decide +kernel
theorem dX8_scanWord_59 : decode cX8_scanWord 59 = .ok (.aload_n 0, 1) := by decide +kernel
theorem dX8_scanWord_60 : decode cX8_scanWord 60 = .ok (.getfield 25, 3) := by decide +kernel
theorem dX8_scanWord_63 : decode cX8_scanWord 63 = .ok (.putfield 25, 3) := by decide +kernel
theorem dX8_scanWord_66 : decode cX8_scanWord 66 = .ok (.iinc 1 1, 3) := by decide +kernel
theorem dX8_scanWord_69 : decode cX8_scanWord 69 = .ok (.aload_n 0, 1) := by decide +kernel
theorem dX8_scanWord_70 : decode cX8_scanWord 70 = .ok (.dup, 1) := by decide +kernel
theorem dX8_scanWord_71 : decode cX8_scanWord 71 = .ok (.getfield 19, 3) := by decide +kernel
theorem dX8_scanWord_74 : decode cX8_scanWord 74 = .ok (.iconst 1, 1) := by decide +kernel
theorem dX8_scanWord_75 : decode cX8_scanWord 75 = .ok (.iadd, 1) := by decide +kernel
theorem dX8_scanWord_76 : decode cX8_scanWord 76 = .ok (.putfield 19, 3) := by decide +kernel
theorem dX8_scanWord_79 : decode cX8_scanWord 79 = .ok (.goto (-77), 3) := by decide +kernel
theorem dX8_scanWord_82 : decode cX8_scanWord 82 = .ok (.iload_n 1, 1) := by decide +kernel
theorem dX8_scanWord_83 : decode cX8_scanWord 83 = .ok (.bipush 6, 2) := by decide +kernel
theorem dX8_scanWord_85 : decode cX8_scanWord 85 = .ok (.if_icmp .le 9, 3) := by decide +kernel
theorem dX8_scanWord_88 : decode cX8_scanWord 88 = .ok (.aload_n 0, 1) := by decide +kernel
theorem dX8_scanWord_89 : decode cX8_scanWord 89 = .ok (.iconst 5, 1) := by decide +kernel
theorem dX8_scanWord_90 : decode cX8_scanWord 90 = .ok (.putfield 22, 3) := by decide +kernel
theorem dX8_scanWord_93 : decode cX8_scanWord 93 = .ok (.return_, 1) := by decide +kernel
theorem dX8_scanWord_94 : decode cX8_scanWord 94 = .ok (.aload_n 0, 1) := by decide +kernel
theorem dX8_scanWord_95 : decode cX8_scanWord 95 = .ok (.dup, 1) := by decide +kernel
theorem dX8_scanWord_96 : decode cX8_scanWord 96 = .ok (.getfield 25, 3) := by decide +kernel
theorem dX8_scanWord_99 : decode cX8_scanWord 99 = .ok (.iconst 5, 1) := by decide +kernel
theorem dX8_scanWord_100 : decode cX8_scanWord 100 = .ok (.bipush 6, 2) := by decide +kernel
theorem dX8_scanWord_102 : decode cX8_scanWord 102 = .ok (.iload_n 1, 1) := by decide +kernel
theorem dX8_scanWord_103 : decode cX8_scanWord 103 = .ok (.isub, 1) := by decide +kernel
theorem dX8_scanWord_104 : decode cX8_scanWord 104 = .ok (.imul, 1) := by decide +kernel
theorem dX8_scanWord_105 : decode cX8_scanWord 105 = .ok (.ishl, 1) := by decide +kernel
theorem dX8_scanWord_106 : decode cX8_scanWord 106 = .ok (.putfield 25, 3) := by decide +kernel
theorem dX8_scanWord_109 : decode cX8_scanWord 109 = .ok (.aload_n 0, 1) := by decide +kernel
theorem dX8_scanWord_110 : decode cX8_scanWord 110 = .ok (.iconst 1, 1) := by decide +kernel
theorem dX8_scanWord_111 : decode cX8_scanWord 111 = .ok (.putfield 22, 3) := by decide +kernel
theorem dX8_scanWord_114 : decode cX8_scanWord 114 = .ok (.iconst 0, 1) := by decide +kernel
theorem dX8_scanWord_115 : decode cX8_scanWord 115 = .ok (.istore_n 2, 1) := by decide +kernel
theorem dX8_scanWord_116 : decode cX8_scanWord 116 = .ok (.iload_n 2, 1) := by decide +kernel
theorem dX8_scanWord_117 : decode cX8_scanWord 117 = .ok (.bipush 27, 2) := by decide +kernel
theorem dX8_scanWord_119 : decode cX8_scanWord 119 = .ok (.if_icmp .ge 40, 3) := by decide +kernel
theorem dX8_scanWord_122 : decode cX8_scanWord 122 = .ok (.aload_n 0, 1) := by decide +kernel
theorem dX8_scanWord_123 : decode cX8_scanWord 123 = .ok (.getfield 22, 3) := by decide +kernel
theorem dX8_scanWord_126 : decode cX8_scanWord 126 = .ok (.iconst 1, 1) := by decide +kernel
theorem dX8_scanWord_127 : decode cX8_scanWord 127 = .ok (.if_icmp .ne 32, 3) := by decide +kernel
theorem dX8_scanWord_130 : decode cX8_scanWord 130 = .ok (.aload_n 0, 1) := by decide +kernel
theorem dX8_scanWord_131 : decode cX8_scanWord 131 = .ok (.getfield 11, 3) := by decide +kernel
theorem dX8_scanWord_134 : decode cX8_scanWord 134 = .ok (.iload_n 2, 1) := by decide +kernel
theorem dX8_scanWord_135 : decode cX8_scanWord 135 = .ok (.iaload, 1) := by decide +kernel
theorem dX8_scanWord_136 : decode cX8_scanWord 136 = .ok (.aload_n 0, 1) := by decide +kernel
theorem dX8_scanWord_137 : decode cX8_scanWord 137 = .ok (.getfield 25, 3) := by decide +kernel
theorem dX8_scanWord_140 : decode cX8_scanWord 140 = .ok (.if_icmp .ne 13, 3) := by decide +kernel
theorem dX8_scanWord_143 : decode cX8_scanWord 143 = .ok (.aload_n 0, 1) := by decide +kernel
theorem dX8_scanWord_144 : decode cX8_scanWord 144 = .ok (.iconst 2, 1) := by decide +kernel
theorem dX8_scanWord_145 : decode cX8_scanWord 145 = .ok (.putfield 22, 3) := by decide +kernel
theorem dX8_scanWord_148 : decode cX8_scanWord 148 = .ok (.aload_n 0, 1) := by decide +kernel
theorem dX8_scanWord_149 : decode cX8_scanWord 149 = .ok (.iload_n 2, 1) := by decide +kernel
theorem dX8_scanWord_150 : decode cX8_scanWord 150 = .ok (.putfield 25, 3) := by decide +kernel
theorem dX8_scanWord_153 : decode cX8_scanWord 153 = .ok (.iinc 2 1, 3) := by decide +kernel
theorem dX8_scanWord_156 : decode cX8_scanWord 156 = .ok (.goto (-40), 3) := by decide +kernel
theorem dX8_scanWord_159 : decode cX8_scanWord 159 = .ok (.return_, 1) := by decide +kernel
noncomputable def b_X8_scanWord_0 (rec : Rk) (h : Hp) : Option (Int × Hp) :=
  rec 1 [0] h
noncomputable def b_X8_scanWord_1 (rec : Rk) (x1 : Int) (h : Hp) : Option (Int × Hp) :=
  if (gI h 8 0 2) ≤ (gI h 8 0 3) then (
    rec 3 [x1] h
  ) else (
    ck (0 ≤ (gI h 8 0 3) ∧ (gI h 8 0 3) < 800) <|
    bd (f_X8_isLetter (gI h 58 0 (gI h 8 0 3)) h) fun v1 h2 =>
    if v1 = 0 then (
      rec 3 [x1] h2
    ) else (
      if 6 ≤ x1 then (
        rec 2 [x1, gI h2 8 0 5] h2
      ) else (
        ck (0 ≤ (gI h2 8 0 3) ∧ (gI h2 8 0 3) < 800) <|
        ck (-2147483648 ≤ (gI h2 58 0 (gI h2 8 0 3)) - 97 ∧ (gI h2 58 0 (gI h2 8 0 3)) - 97 < 2147483648) <|
        ck (-2147483648 ≤ ((gI h2 58 0 (gI h2 8 0 3)) - 97) + 1 ∧ ((gI h2 58 0 (gI h2 8 0 3)) - 97) + 1 < 2147483648) <|
        rec 2 [x1, bor (bshl (gI h2 8 0 5) 5) (((gI h2 58 0 (gI h2 8 0 3)) - 97) + 1)] h2
      )
    )
  )
noncomputable def b_X8_scanWord_2 (rec : Rk) (x1 y0 : Int) (h : Hp) : Option (Int × Hp) :=
  lt (sI h 8 0 5 y0) fun h1 =>
  ck (-2147483648 ≤ x1 + 1 ∧ x1 + 1 < 2147483648) <|
  ck (-2147483648 ≤ (gI h1 8 0 3) + 1 ∧ (gI h1 8 0 3) + 1 < 2147483648) <|
  lt (sI h1 8 0 3 ((gI h1 8 0 3) + 1)) fun h2 =>
  rec 1 [x1 + 1] h2
noncomputable def b_X8_scanWord_3 (rec : Rk) (x1 : Int) (h : Hp) : Option (Int × Hp) :=
  if x1 ≤ 6 then (
    ck (-2147483648 ≤ 6 - x1 ∧ 6 - x1 < 2147483648) <|
    ck (-2147483648 ≤ 5 * (6 - x1) ∧ 5 * (6 - x1) < 2147483648) <|
    lt (sI h 8 0 5 (bshl (gI h 8 0 5) (5 * (6 - x1)))) fun h1 =>
    lt (sI h1 8 0 4 1) fun h2 =>
    rec 4 [0] h2
  ) else (
    lt (sI h 8 0 4 5) fun h3 =>
    some (0, h3)
  )
noncomputable def b_X8_scanWord_4 (rec : Rk) (x2 : Int) (h : Hp) : Option (Int × Hp) :=
  if 27 ≤ x2 then (
    some (0, h)
  ) else (
    if (gI h 8 0 4) = 1 then (
      ck (0 ≤ x2 ∧ x2 < 27) <|
      if (gI h 47 0 x2) = (gI h 8 0 5) then (
        lt (sI h 8 0 4 2) fun h1 =>
        lt (sI h1 8 0 5 x2) fun h2 =>
        rec 5 [x2] h2
      ) else (
        rec 5 [x2] h
      )
    ) else (
      some (0, h)
    )
  )
noncomputable def b_X8_scanWord_5 (rec : Rk) (x2 : Int) (h : Hp) : Option (Int × Hp) :=
  ck (-2147483648 ≤ x2 + 1 ∧ x2 + 1 < 2147483648) <|
  rec 4 [x2 + 1] h
noncomputable def g_X8_scanWord (n : Nat) : Rk := Nat.rec (motive := fun _ => Rk) (fun _ _ _ => none) (fun _ rec k l h => if k = 0 then b_X8_scanWord_0 rec  h else if k = 1 then b_X8_scanWord_1 rec (l.getD 0 0) h else if k = 2 then b_X8_scanWord_2 rec (l.getD 0 0) (l.getD 1 0) h else if k = 3 then b_X8_scanWord_3 rec (l.getD 0 0) h else if k = 4 then b_X8_scanWord_4 rec (l.getD 0 0) h else if k = 5 then b_X8_scanWord_5 rec (l.getD 0 0) h else none) n
noncomputable def f_X8_scanWord (h : Hp) : Option (Int × Hp) := g_X8_scanWord FU 0 [] h
set_option maxHeartbeats 4000000 in
set_option maxRecDepth 100000 in
theorem t_X8_scanWord_0 (E : xE) (d : Nat) (rec : Rk) (r : Int × Hp) (hr_2 : ∀ (x1 : Int) (h : Hp), Lay h → rec 1 [x1] h = some r → X E mX8_scanWord (d + 2) (0, 0) (0, 0) 2 [some (xr 8 0), some (xi x1), none] [] h (PoV r)) (h : Hp) (hL : Lay h) (hF : b_X8_scanWord_0 rec  h = some r) : X E mX8_scanWord (d + 2) (0, 0) (0, 0) 0 [some (xr 8 0), none, none] [] h (PoV r) := by
  unfold b_X8_scanWord_0 at hF
  refine x_iconst (n := 0) (b := 1) dX8_scanWord_0 (by decide) rfl ?_
  refine x_istore_n (i := 1) (b := 2) (ls2 := [some (xr 8 0), some (xi 0), none]) dX8_scanWord_1 rfl (Nat.le_of_ble_eq_true rfl) rfl rfl ?_
  exact x_dp (ls2 := [some (xr 8 0), some (xi 0), none]) ⟨rfl, rfl, trivial⟩ (hr_2 0 h hL hF)
set_option maxHeartbeats 4000000 in
set_option maxRecDepth 100000 in
theorem t_X8_scanWord_1 (E : xE) (d : Nat) (rec : Rk) (r : Int × Hp) (hr_63 : ∀ (x1 y0 : Int) (h : Hp), Lay h → rec 2 [x1, y0] h = some r → X E mX8_scanWord (d + 2) (0, 0) (0, 0) 63 [some (xr 8 0), some (xi x1), none] [xi y0, xr 8 0] h (PoV r)) (hr_82 : ∀ (x1 : Int) (h : Hp), Lay h → rec 3 [x1] h = some r → X E mX8_scanWord (d + 2) (0, 0) (0, 0) 82 [some (xr 8 0), some (xi x1), none] [] h (PoV r)) (x1 : Int) (h : Hp) (hL : Lay h) (hF : b_X8_scanWord_1 rec x1 h = some r) : X E mX8_scanWord (d + 2) (0, 0) (0, 0) 2 [some (xr 8 0), some (xi x1), none] [] h (PoV r) := by
  unfold b_X8_scanWord_1 at hF
  refine x_aload_n (i := 0) (b := 3) dX8_scanWord_2 rfl rfl rfl ?_
  refine x_getI (v := gI h 8 0 3) (b := 6) fk_X8_19 dX8_scanWord_3 (by decide) rfl rfl ?_
  refine x_aload_n (i := 0) (b := 7) dX8_scanWord_6 rfl rfl rfl ?_
  refine x_getI (v := gI h 8 0 2) (b := 10) fk_X8_15 dX8_scanWord_7 (by decide) rfl rfl ?_
  refine x_icmp_ge (tgt := 82) (b := 13) dX8_scanWord_10 (by decide) rfl (fun hc => ?_) (fun hc => ?_)
  · replace hF := br_T hc hF
    exact x_dp (ls2 := [some (xr 8 0), some (xi x1), none]) ⟨rfl, rfl, trivial⟩ (hr_82 x1 h hL hF)
  · replace hF := br_F hc hF
    refine x_aload_n (i := 0) (b := 14) dX8_scanWord_13 rfl rfl rfl ?_
    refine x_getL (j := 0) (t := (58, 0, false)) (b := 17) fk_X8_40 dX8_scanWord_14 rfl hL rfl rfl rfl ?_
    refine x_aload_n (i := 0) (b := 18) dX8_scanWord_17 rfl rfl rfl ?_
    refine x_getI (v := gI h 8 0 3) (b := 21) fk_X8_19 dX8_scanWord_18 (by decide) rfl rfl ?_
    obtain ⟨hs, hF⟩ := ck_e hF
    refine x_bald (v := gI h 58 0 (gI h 8 0 3)) (b := 22) ak_58 dX8_scanWord_21 hs rfl rfl ?_
    obtain ⟨v1, h2, hq, hF⟩ := bd_e hF
    refine x_callS (as := [xi (gI h 58 0 (gI h 8 0 3))]) (rest := []) (b := 25) (c_X8_isLetter d (gI h 58 0 (gI h 8 0 3)) h _ hL hq) dX8_scanWord_22 cw_X8_64 rfl rfl (Nat.le_of_ble_eq_true rfl) ⟨Nat.le_refl _, Nat.le_refl _⟩ rfl (fun rv hh hp _ => ?_)
    obtain ⟨rfl, rfl, hL⟩ := hp
    refine x_if_eq (tgt := 82) (b := 28) dX8_scanWord_25 (by decide) rfl (fun hc => ?_) (fun hc => ?_)
    · replace hF := br_T hc hF
      exact x_dp (ls2 := [some (xr 8 0), some (xi x1), none]) ⟨rfl, rfl, trivial⟩ (hr_82 x1 h2 hL hF)
    · replace hF := br_F hc hF
      refine x_aload_n (i := 0) (b := 29) dX8_scanWord_28 rfl rfl rfl ?_
      refine x_iload_n (i := 1) (b := 30) dX8_scanWord_29 rfl rfl rfl ?_
      refine x_bipush (n := 6) (b := 32) dX8_scanWord_30 (by decide) rfl ?_
      refine x_icmp_ge (tgt := 59) (b := 35) dX8_scanWord_32 (by decide) rfl (fun hc => ?_) (fun hc => ?_)
      · replace hF := br_T hc hF
        refine x_aload_n (i := 0) (b := 60) dX8_scanWord_59 rfl rfl rfl ?_
        refine x_getI (v := gI h2 8 0 5) (b := 63) fk_X8_25 dX8_scanWord_60 (by decide) rfl rfl ?_
        exact x_dp (ls2 := [some (xr 8 0), some (xi x1), none]) ⟨rfl, rfl, trivial⟩ (hr_63 x1 (gI h2 8 0 5) h2 hL hF)
      · replace hF := br_F hc hF
        refine x_aload_n (i := 0) (b := 36) dX8_scanWord_35 rfl rfl rfl ?_
        refine x_getI (v := gI h2 8 0 5) (b := 39) fk_X8_25 dX8_scanWord_36 (by decide) rfl rfl ?_
        refine x_iconst (n := 5) (b := 40) dX8_scanWord_39 (by decide) rfl ?_
        refine x_ishl (b := 41) dX8_scanWord_40 rfl ?_
        refine x_aload_n (i := 0) (b := 42) dX8_scanWord_41 rfl rfl rfl ?_
        refine x_getL (j := 0) (t := (58, 0, false)) (b := 45) fk_X8_40 dX8_scanWord_42 rfl hL rfl rfl rfl ?_
        refine x_aload_n (i := 0) (b := 46) dX8_scanWord_45 rfl rfl rfl ?_
        refine x_getI (v := gI h2 8 0 3) (b := 49) fk_X8_19 dX8_scanWord_46 (by decide) rfl rfl ?_
        obtain ⟨hs, hF⟩ := ck_e hF
        refine x_bald (v := gI h2 58 0 (gI h2 8 0 3)) (b := 50) ak_58 dX8_scanWord_49 hs rfl rfl ?_
        refine x_bipush (n := 97) (b := 52) dX8_scanWord_50 (by decide) rfl ?_
        obtain ⟨hs, hF⟩ := ck_e hF
        refine x_isub (b := 53) dX8_scanWord_52 hs rfl ?_
        refine x_iconst (n := 1) (b := 54) dX8_scanWord_53 (by decide) rfl ?_
        obtain ⟨hs, hF⟩ := ck_e hF
        refine x_iadd (b := 55) dX8_scanWord_54 hs rfl ?_
        refine x_ior (b := 56) dX8_scanWord_55 rfl ?_
        refine x_goto (tgt := 63) dX8_scanWord_56 (by decide) ?_
        exact x_dp (ls2 := [some (xr 8 0), some (xi x1), none]) ⟨rfl, rfl, trivial⟩ (hr_63 x1 (bor (bshl (gI h2 8 0 5) 5) (((gI h2 58 0 (gI h2 8 0 3)) - 97) + 1)) h2 hL hF)
set_option maxHeartbeats 4000000 in
set_option maxRecDepth 100000 in
theorem t_X8_scanWord_2 (E : xE) (d : Nat) (rec : Rk) (r : Int × Hp) (hr_2 : ∀ (x1 : Int) (h : Hp), Lay h → rec 1 [x1] h = some r → X E mX8_scanWord (d + 2) (0, 0) (0, 0) 2 [some (xr 8 0), some (xi x1), none] [] h (PoV r)) (x1 y0 : Int) (h : Hp) (hL : Lay h) (hF : b_X8_scanWord_2 rec x1 y0 h = some r) : X E mX8_scanWord (d + 2) (0, 0) (0, 0) 63 [some (xr 8 0), some (xi x1), none] [xi y0, xr 8 0] h (PoV r) := by
  unfold b_X8_scanWord_2 at hF
  refine x_putI (b := 66) fk_X8_25 dX8_scanWord_63 rfl rfl 5 rfl ?_
  obtain ⟨h1, e_h1, hF⟩ := lt_e hF
  refine x_hp (h2 := h1) e_h1 ?_
  replace hL : Lay h1 := by rw [← e_h1]; exact hL
  obtain ⟨hs, hF⟩ := ck_e hF
  refine x_iinc (i := 1) (b := 69) (ls2 := [some (xr 8 0), some (xi (x1 + 1)), none]) dX8_scanWord_66 rfl (Nat.le_of_ble_eq_true rfl) hs rfl rfl ?_
  refine x_aload_n (i := 0) (b := 70) dX8_scanWord_69 rfl rfl rfl ?_
  refine x_dup (b := 71) dX8_scanWord_70 rfl rfl ?_
  refine x_getI (v := gI h1 8 0 3) (b := 74) fk_X8_19 dX8_scanWord_71 (by decide) rfl rfl ?_
  refine x_iconst (n := 1) (b := 75) dX8_scanWord_74 (by decide) rfl ?_
  obtain ⟨hs, hF⟩ := ck_e hF
  refine x_iadd (b := 76) dX8_scanWord_75 hs rfl ?_
  refine x_putI (b := 79) fk_X8_19 dX8_scanWord_76 rfl rfl 3 rfl ?_
  obtain ⟨h2, e_h2, hF⟩ := lt_e hF
  refine x_hp (h2 := h2) e_h2 ?_
  replace hL : Lay h2 := by rw [← e_h2]; exact hL
  refine x_goto (tgt := 2) dX8_scanWord_79 (by decide) ?_
  exact x_dp (ls2 := [some (xr 8 0), some (xi (x1 + 1)), none]) ⟨rfl, rfl, trivial⟩ (hr_2 (x1 + 1) h2 hL hF)
set_option maxHeartbeats 4000000 in
set_option maxRecDepth 100000 in
theorem t_X8_scanWord_3 (E : xE) (d : Nat) (rec : Rk) (r : Int × Hp) (hr_116 : ∀ (x2 : Int) (h : Hp), Lay h → rec 4 [x2] h = some r → X E mX8_scanWord (d + 2) (0, 0) (0, 0) 116 [some (xr 8 0), none, some (xi x2)] [] h (PoV r)) (x1 : Int) (h : Hp) (hL : Lay h) (hF : b_X8_scanWord_3 rec x1 h = some r) : X E mX8_scanWord (d + 2) (0, 0) (0, 0) 82 [some (xr 8 0), some (xi x1), none] [] h (PoV r) := by
  unfold b_X8_scanWord_3 at hF
  refine x_iload_n (i := 1) (b := 83) dX8_scanWord_82 rfl rfl rfl ?_
  refine x_bipush (n := 6) (b := 85) dX8_scanWord_83 (by decide) rfl ?_
  refine x_icmp_le (tgt := 94) (b := 88) dX8_scanWord_85 (by decide) rfl (fun hc => ?_) (fun hc => ?_)
  · replace hF := br_T hc hF
    refine x_aload_n (i := 0) (b := 95) dX8_scanWord_94 rfl rfl rfl ?_
    refine x_dup (b := 96) dX8_scanWord_95 rfl rfl ?_
    refine x_getI (v := gI h 8 0 5) (b := 99) fk_X8_25 dX8_scanWord_96 (by decide) rfl rfl ?_
    refine x_iconst (n := 5) (b := 100) dX8_scanWord_99 (by decide) rfl ?_
    refine x_bipush (n := 6) (b := 102) dX8_scanWord_100 (by decide) rfl ?_
    refine x_iload_n (i := 1) (b := 103) dX8_scanWord_102 rfl rfl rfl ?_
    obtain ⟨hs, hF⟩ := ck_e hF
    refine x_isub (b := 104) dX8_scanWord_103 hs rfl ?_
    obtain ⟨hs, hF⟩ := ck_e hF
    refine x_imul (b := 105) dX8_scanWord_104 hs rfl ?_
    refine x_ishl (b := 106) dX8_scanWord_105 rfl ?_
    refine x_putI (b := 109) fk_X8_25 dX8_scanWord_106 rfl rfl 5 rfl ?_
    obtain ⟨h1, e_h1, hF⟩ := lt_e hF
    refine x_hp (h2 := h1) e_h1 ?_
    replace hL : Lay h1 := by rw [← e_h1]; exact hL
    refine x_aload_n (i := 0) (b := 110) dX8_scanWord_109 rfl rfl rfl ?_
    refine x_iconst (n := 1) (b := 111) dX8_scanWord_110 (by decide) rfl ?_
    refine x_putI (b := 114) fk_X8_22 dX8_scanWord_111 rfl rfl 4 rfl ?_
    obtain ⟨h2, e_h2, hF⟩ := lt_e hF
    refine x_hp (h2 := h2) e_h2 ?_
    replace hL : Lay h2 := by rw [← e_h2]; exact hL
    refine x_iconst (n := 0) (b := 115) dX8_scanWord_114 (by decide) rfl ?_
    refine x_istore_n (i := 2) (b := 116) (ls2 := [some (xr 8 0), some (xi x1), some (xi 0)]) dX8_scanWord_115 rfl (Nat.le_of_ble_eq_true rfl) rfl rfl ?_
    exact x_dp (ls2 := [some (xr 8 0), none, some (xi 0)]) ⟨rfl, rfl, trivial⟩ (hr_116 0 h2 hL hF)
  · replace hF := br_F hc hF
    refine x_aload_n (i := 0) (b := 89) dX8_scanWord_88 rfl rfl rfl ?_
    refine x_iconst (n := 5) (b := 90) dX8_scanWord_89 (by decide) rfl ?_
    refine x_putI (b := 93) fk_X8_22 dX8_scanWord_90 rfl rfl 4 rfl ?_
    obtain ⟨h3, e_h3, hF⟩ := lt_e hF
    refine x_hp (h2 := h3) e_h3 ?_
    replace hL : Lay h3 := by rw [← e_h3]; exact hL
    refine x_return dX8_scanWord_93 rfl ⟨Nat.le_refl _, Nat.le_refl _⟩ ?_
    cases hF
    exact ⟨rfl, rfl, hL⟩
set_option maxHeartbeats 4000000 in
set_option maxRecDepth 100000 in
theorem t_X8_scanWord_4 (E : xE) (d : Nat) (rec : Rk) (r : Int × Hp) (hr_153 : ∀ (x2 : Int) (h : Hp), Lay h → rec 5 [x2] h = some r → X E mX8_scanWord (d + 2) (0, 0) (0, 0) 153 [some (xr 8 0), none, some (xi x2)] [] h (PoV r)) (x2 : Int) (h : Hp) (hL : Lay h) (hF : b_X8_scanWord_4 rec x2 h = some r) : X E mX8_scanWord (d + 2) (0, 0) (0, 0) 116 [some (xr 8 0), none, some (xi x2)] [] h (PoV r) := by
  unfold b_X8_scanWord_4 at hF
  refine x_iload_n (i := 2) (b := 117) dX8_scanWord_116 rfl rfl rfl ?_
  refine x_bipush (n := 27) (b := 119) dX8_scanWord_117 (by decide) rfl ?_
  refine x_icmp_ge (tgt := 159) (b := 122) dX8_scanWord_119 (by decide) rfl (fun hc => ?_) (fun hc => ?_)
  · replace hF := br_T hc hF
    refine x_return dX8_scanWord_159 rfl ⟨Nat.le_refl _, Nat.le_refl _⟩ ?_
    cases hF
    exact ⟨rfl, rfl, hL⟩
  · replace hF := br_F hc hF
    refine x_aload_n (i := 0) (b := 123) dX8_scanWord_122 rfl rfl rfl ?_
    refine x_getI (v := gI h 8 0 4) (b := 126) fk_X8_22 dX8_scanWord_123 (by decide) rfl rfl ?_
    refine x_iconst (n := 1) (b := 127) dX8_scanWord_126 (by decide) rfl ?_
    refine x_icmp_ne (tgt := 159) (b := 130) dX8_scanWord_127 (by decide) rfl (fun hc => ?_) (fun hc => ?_)
    · replace hF := br_F hc hF
      refine x_return dX8_scanWord_159 rfl ⟨Nat.le_refl _, Nat.le_refl _⟩ ?_
      cases hF
      exact ⟨rfl, rfl, hL⟩
    · replace hF := br_T hc hF
      refine x_aload_n (i := 0) (b := 131) dX8_scanWord_130 rfl rfl rfl ?_
      refine x_getL (j := 0) (t := (47, 0, true)) (b := 134) fk_X8_11 dX8_scanWord_131 rfl hL rfl rfl rfl ?_
      refine x_iload_n (i := 2) (b := 135) dX8_scanWord_134 rfl rfl rfl ?_
      obtain ⟨hs, hF⟩ := ck_e hF
      refine x_iald (v := gI h 47 0 x2) (b := 136) ak_47 dX8_scanWord_135 hs rfl rfl ?_
      refine x_aload_n (i := 0) (b := 137) dX8_scanWord_136 rfl rfl rfl ?_
      refine x_getI (v := gI h 8 0 5) (b := 140) fk_X8_25 dX8_scanWord_137 (by decide) rfl rfl ?_
      refine x_icmp_ne (tgt := 153) (b := 143) dX8_scanWord_140 (by decide) rfl (fun hc => ?_) (fun hc => ?_)
      · replace hF := br_F hc hF
        exact x_dp (ls2 := [some (xr 8 0), none, some (xi x2)]) ⟨rfl, rfl, trivial⟩ (hr_153 x2 h hL hF)
      · replace hF := br_T hc hF
        refine x_aload_n (i := 0) (b := 144) dX8_scanWord_143 rfl rfl rfl ?_
        refine x_iconst (n := 2) (b := 145) dX8_scanWord_144 (by decide) rfl ?_
        refine x_putI (b := 148) fk_X8_22 dX8_scanWord_145 rfl rfl 4 rfl ?_
        obtain ⟨h1, e_h1, hF⟩ := lt_e hF
        refine x_hp (h2 := h1) e_h1 ?_
        replace hL : Lay h1 := by rw [← e_h1]; exact hL
        refine x_aload_n (i := 0) (b := 149) dX8_scanWord_148 rfl rfl rfl ?_
        refine x_iload_n (i := 2) (b := 150) dX8_scanWord_149 rfl rfl rfl ?_
        refine x_putI (b := 153) fk_X8_25 dX8_scanWord_150 rfl rfl 5 rfl ?_
        obtain ⟨h2, e_h2, hF⟩ := lt_e hF
        refine x_hp (h2 := h2) e_h2 ?_
        replace hL : Lay h2 := by rw [← e_h2]; exact hL
        exact x_dp (ls2 := [some (xr 8 0), none, some (xi x2)]) ⟨rfl, rfl, trivial⟩ (hr_153 x2 h2 hL hF)
set_option maxHeartbeats 4000000 in
set_option maxRecDepth 100000 in
theorem t_X8_scanWord_5 (E : xE) (d : Nat) (rec : Rk) (r : Int × Hp) (hr_116 : ∀ (x2 : Int) (h : Hp), Lay h → rec 4 [x2] h = some r → X E mX8_scanWord (d + 2) (0, 0) (0, 0) 116 [some (xr 8 0), none, some (xi x2)] [] h (PoV r)) (x2 : Int) (h : Hp) (hL : Lay h) (hF : b_X8_scanWord_5 rec x2 h = some r) : X E mX8_scanWord (d + 2) (0, 0) (0, 0) 153 [some (xr 8 0), none, some (xi x2)] [] h (PoV r) := by
  unfold b_X8_scanWord_5 at hF
  obtain ⟨hs, hF⟩ := ck_e hF
  refine x_iinc (i := 2) (b := 156) (ls2 := [some (xr 8 0), none, some (xi (x2 + 1))]) dX8_scanWord_153 rfl (Nat.le_of_ble_eq_true rfl) hs rfl rfl ?_
  refine x_goto (tgt := 116) dX8_scanWord_156 (by decide) ?_
  exact x_dp (ls2 := [some (xr 8 0), none, some (xi (x2 + 1))]) ⟨rfl, rfl, trivial⟩ (hr_116 (x2 + 1) h hL hF)
set_option maxHeartbeats 4000000 in
set_option maxRecDepth 100000 in
theorem u_X8_scanWord (E : xE) (d : Nat) (r : Int × Hp) : ∀ n : Nat, (∀ (h : Hp), Lay h → g_X8_scanWord n 0 [] h = some r → X E mX8_scanWord (d + 2) (0, 0) (0, 0) 0 [some (xr 8 0), none, none] [] h (PoV r)) ∧ (∀ (x1 : Int) (h : Hp), Lay h → g_X8_scanWord n 1 [x1] h = some r → X E mX8_scanWord (d + 2) (0, 0) (0, 0) 2 [some (xr 8 0), some (xi x1), none] [] h (PoV r)) ∧ (∀ (x1 y0 : Int) (h : Hp), Lay h → g_X8_scanWord n 2 [x1, y0] h = some r → X E mX8_scanWord (d + 2) (0, 0) (0, 0) 63 [some (xr 8 0), some (xi x1), none] [xi y0, xr 8 0] h (PoV r)) ∧ (∀ (x1 : Int) (h : Hp), Lay h → g_X8_scanWord n 3 [x1] h = some r → X E mX8_scanWord (d + 2) (0, 0) (0, 0) 82 [some (xr 8 0), some (xi x1), none] [] h (PoV r)) ∧ (∀ (x2 : Int) (h : Hp), Lay h → g_X8_scanWord n 4 [x2] h = some r → X E mX8_scanWord (d + 2) (0, 0) (0, 0) 116 [some (xr 8 0), none, some (xi x2)] [] h (PoV r)) ∧ (∀ (x2 : Int) (h : Hp), Lay h → g_X8_scanWord n 5 [x2] h = some r → X E mX8_scanWord (d + 2) (0, 0) (0, 0) 153 [some (xr 8 0), none, some (xi x2)] [] h (PoV r)) := by
  intro n
  induction n with
  | zero => exact ⟨fun _ _ hF => no_e (r := r) hF, fun _ _ _ hF => no_e (r := r) hF, fun _ _ _ _ hF => no_e (r := r) hF, fun _ _ _ hF => no_e (r := r) hF, fun _ _ _ hF => no_e (r := r) hF, fun _ _ _ hF => no_e (r := r) hF⟩
  | succ n ih => exact ⟨fun h hL hF => t_X8_scanWord_0 E d (g_X8_scanWord n) r ih.2.1  h hL hF, fun x1 h hL hF => t_X8_scanWord_1 E d (g_X8_scanWord n) r ih.2.2.1 ih.2.2.2.1 x1 h hL hF, fun x1 y0 h hL hF => t_X8_scanWord_2 E d (g_X8_scanWord n) r ih.2.1 x1 y0 h hL hF, fun x1 h hL hF => t_X8_scanWord_3 E d (g_X8_scanWord n) r ih.2.2.2.2.1 x1 h hL hF, fun x2 h hL hF => t_X8_scanWord_4 E d (g_X8_scanWord n) r ih.2.2.2.2.2 x2 h hL hF, fun x2 h hL hF => t_X8_scanWord_5 E d (g_X8_scanWord n) r ih.2.2.2.2.1 x2 h hL hF⟩
theorem c_X8_scanWord (d : Nat) (h : Hp) (r : Int × Hp) (hL : Lay h) (hF : f_X8_scanWord  h = some r) : Sp mX8_scanWord (d + 2) (0, 0) [xr 8 0] h (PoV r) :=
  sp_of (by decide) rfl (Nat.le_of_ble_eq_true rfl) (ls := [some (xr 8 0), none, none]) rfl (fun E _ => (u_X8_scanWord E d r FU).1  h hL hF)
theorem dX9_clear_0 : decode cX9_clear 0 = .ok (.aload_n 0, 1) := by decide +kernel
theorem dX9_clear_1 : decode cX9_clear 1 = .ok (.iconst 4, 1) := by decide +kernel
theorem dX9_clear_2 : decode cX9_clear 2 = .ok (.putfield 9, 3) := by decide +kernel
theorem dX9_clear_5 : decode cX9_clear 5 = .ok (.aload_n 0, 1) := by decide +kernel
theorem dX9_clear_6 : decode cX9_clear 6 = .ok (.iconst 4, 1) := by decide +kernel
theorem dX9_clear_7 : decode cX9_clear 7 = .ok (.putfield 15, 3) := by decide +kernel
theorem dX9_clear_10 : decode cX9_clear 10 = .ok (.aload_n 0, 1) := by decide +kernel
theorem dX9_clear_11 : decode cX9_clear 11 = .ok (.lconst 0, 1) := by decide +kernel
theorem dX9_clear_12 : decode cX9_clear 12 = .ok (.putfield 18, 3) := by decide +kernel
theorem dX9_clear_15 : decode cX9_clear 15 = .ok (.aload_n 0, 1) := by decide +kernel
theorem dX9_clear_16 : decode cX9_clear 16 = .ok (.iconst 0, 1) := by decide +kernel
theorem dX9_clear_17 : decode cX9_clear 17 = .ok (.putfield 22, 3) := by decide +kernel
theorem dX9_clear_20 : decode cX9_clear 20 = .ok (.aload_n 0, 1) := by decide +kernel
theorem dX9_clear_21 : decode cX9_clear 21 = .ok (.iconst 0, 1) := by decide +kernel
theorem dX9_clear_22 : decode cX9_clear 22 = .ok (.putfield 25, 3) := by decide +kernel
theorem dX9_clear_25 : decode cX9_clear 25 = .ok (.aload_n 0, 1) := by decide +kernel
theorem dX9_clear_26 : decode cX9_clear 26 = .ok (.iconst 0, 1) := by decide +kernel
theorem dX9_clear_27 : decode cX9_clear 27 = .ok (.putfield 28, 3) := by decide +kernel
theorem dX9_clear_30 : decode cX9_clear 30 = .ok (.aload_n 0, 1) := by decide +kernel
theorem dX9_clear_31 : decode cX9_clear 31 = .ok (.iconst 0, 1) := by decide +kernel
theorem dX9_clear_32 : decode cX9_clear 32 = .ok (.putfield 31, 3) := by decide +kernel
theorem dX9_clear_35 : decode cX9_clear 35 = .ok (.return_, 1) := by decide +kernel
noncomputable def b_X9_clear_0 (rec : Rk) (x0 : Int) (h : Hp) : Option (Int × Hp) :=
  lt (sI h 9 x0 0 4) fun h1 =>
  lt (sI h1 9 x0 1 4) fun h2 =>
  lt (sI h2 9 x0 2 0) fun h3 =>
  lt (sI h3 9 x0 3 0) fun h4 =>
  lt (sI h4 9 x0 4 0) fun h5 =>
  lt (sI h5 9 x0 5 0) fun h6 =>
  lt (sI h6 9 x0 6 0) fun h7 =>
  some (0, h7)
noncomputable def g_X9_clear (n : Nat) : Rk := Nat.rec (motive := fun _ => Rk) (fun _ _ _ => none) (fun _ rec k l h => if k = 0 then b_X9_clear_0 rec (l.getD 0 0) h else none) n
noncomputable def f_X9_clear (x0 : Int) (h : Hp) : Option (Int × Hp) := g_X9_clear FU 0 [x0] h
set_option maxHeartbeats 4000000 in
set_option maxRecDepth 100000 in
theorem t_X9_clear_0 (E : xE) (d : Nat) (rec : Rk) (r : Int × Hp) (x0 : Int) (h : Hp) (hL : Lay h) (hF : b_X9_clear_0 rec x0 h = some r) : X E mX9_clear (d + 1) (0, 0) (0, 0) 0 [some (xr 9 x0)] [] h (PoV r) := by
  unfold b_X9_clear_0 at hF
  refine x_aload_n (i := 0) (b := 1) dX9_clear_0 rfl rfl rfl ?_
  refine x_iconst (n := 4) (b := 2) dX9_clear_1 (by decide) rfl ?_
  refine x_putI (b := 5) fk_X9_9 dX9_clear_2 rfl rfl 0 rfl ?_
  obtain ⟨h1, e_h1, hF⟩ := lt_e hF
  refine x_hp (h2 := h1) e_h1 ?_
  replace hL : Lay h1 := by rw [← e_h1]; exact hL
  refine x_aload_n (i := 0) (b := 6) dX9_clear_5 rfl rfl rfl ?_
  refine x_iconst (n := 4) (b := 7) dX9_clear_6 (by decide) rfl ?_
  refine x_putI (b := 10) fk_X9_15 dX9_clear_7 rfl rfl 1 rfl ?_
  obtain ⟨h2, e_h2, hF⟩ := lt_e hF
  refine x_hp (h2 := h2) e_h2 ?_
  replace hL : Lay h2 := by rw [← e_h2]; exact hL
  refine x_aload_n (i := 0) (b := 11) dX9_clear_10 rfl rfl rfl ?_
  refine x_lconst (z := 0) (b := 12) dX9_clear_11 rfl (by decide) rfl ?_
  refine x_putJ (b := 15) fk_X9_18 dX9_clear_12 rfl rfl 2 rfl ?_
  obtain ⟨h3, e_h3, hF⟩ := lt_e hF
  refine x_hp (h2 := h3) e_h3 ?_
  replace hL : Lay h3 := by rw [← e_h3]; exact hL
  refine x_aload_n (i := 0) (b := 16) dX9_clear_15 rfl rfl rfl ?_
  refine x_iconst (n := 0) (b := 17) dX9_clear_16 (by decide) rfl ?_
  refine x_putI (b := 20) fk_X9_22 dX9_clear_17 rfl rfl 3 rfl ?_
  obtain ⟨h4, e_h4, hF⟩ := lt_e hF
  refine x_hp (h2 := h4) e_h4 ?_
  replace hL : Lay h4 := by rw [← e_h4]; exact hL
  refine x_aload_n (i := 0) (b := 21) dX9_clear_20 rfl rfl rfl ?_
  refine x_iconst (n := 0) (b := 22) dX9_clear_21 (by decide) rfl ?_
  refine x_putI (b := 25) fk_X9_25 dX9_clear_22 rfl rfl 4 rfl ?_
  obtain ⟨h5, e_h5, hF⟩ := lt_e hF
  refine x_hp (h2 := h5) e_h5 ?_
  replace hL : Lay h5 := by rw [← e_h5]; exact hL
  refine x_aload_n (i := 0) (b := 26) dX9_clear_25 rfl rfl rfl ?_
  refine x_iconst (n := 0) (b := 27) dX9_clear_26 (by decide) rfl ?_
  refine x_putI (b := 30) fk_X9_28 dX9_clear_27 rfl rfl 5 rfl ?_
  obtain ⟨h6, e_h6, hF⟩ := lt_e hF
  refine x_hp (h2 := h6) e_h6 ?_
  replace hL : Lay h6 := by rw [← e_h6]; exact hL
  refine x_aload_n (i := 0) (b := 31) dX9_clear_30 rfl rfl rfl ?_
  refine x_iconst (n := 0) (b := 32) dX9_clear_31 (by decide) rfl ?_
  refine x_putI (b := 35) fk_X9_31 dX9_clear_32 rfl rfl 6 rfl ?_
  obtain ⟨h7, e_h7, hF⟩ := lt_e hF
  refine x_hp (h2 := h7) e_h7 ?_
  replace hL : Lay h7 := by rw [← e_h7]; exact hL
  refine x_return dX9_clear_35 rfl ⟨Nat.le_refl _, Nat.le_refl _⟩ ?_
  cases hF
  exact ⟨rfl, rfl, hL⟩
set_option maxHeartbeats 4000000 in
set_option maxRecDepth 100000 in
theorem u_X9_clear (E : xE) (d : Nat) (r : Int × Hp) : ∀ n : Nat, (∀ (x0 : Int) (h : Hp), Lay h → g_X9_clear n 0 [x0] h = some r → X E mX9_clear (d + 1) (0, 0) (0, 0) 0 [some (xr 9 x0)] [] h (PoV r)) := by
  intro n
  induction n with
  | zero => exact fun _ _ _ hF => no_e (r := r) hF
  | succ n ih => exact fun x0 h hL hF => t_X9_clear_0 E d (g_X9_clear n) r  x0 h hL hF
theorem c_X9_clear (d : Nat) (x0 : Int) (h : Hp) (r : Int × Hp) (hL : Lay h) (hF : f_X9_clear x0 h = some r) : Sp mX9_clear (d + 1) (0, 0) [xr 9 x0] h (PoV r) :=
  sp_of (by decide) rfl (Nat.le_of_ble_eq_true rfl) (ls := [some (xr 9 x0)]) rfl (fun E _ => (u_X9_clear E d r FU) x0 h hL hF)
theorem dX9_fromBahia_0 : decode cX9_fromBahia 0 = .ok (.iload_n 1, 1) := by decide +kernel
theorem dX9_fromBahia_1 : decode cX9_fromBahia 1 = .ok (.ifCond .lt 22, 3) := by decide +kernel
theorem dX9_fromBahia_4 : decode cX9_fromBahia 4 = .ok (.iload_n 1, 1) := by decide +kernel
theorem dX9_fromBahia_5 : decode cX9_fromBahia 5 = .ok (.bipush 64, 2) := by decide +kernel
theorem dX9_fromBahia_7 : decode cX9_fromBahia 7 = .ok (.if_icmp .ge 16, 3) := by decide +kernel
theorem dX9_fromBahia_10 : decode cX9_fromBahia 10 = .ok (.aload_n 0, 1) := by decide +kernel
theorem dX9_fromBahia_11 : decode cX9_fromBahia 11 = .ok (.getfield 47, 3) := by decide +kernel
theorem dX9_fromBahia_14 : decode cX9_fromBahia 14 = .ok (.sipush 192, 3) := by decide +kernel
theorem dX9_fromBahia_17 : decode cX9_fromBahia 17 = .ok (.iload_n 1, 1) := by decide +kernel
theorem dX9_fromBahia_18 : decode cX9_fromBahia 18 = .ok (.iadd, 1) := by decide +kernel
theorem dX9_fromBahia_19 : decode cX9_fromBahia 19 = .ok (.iaload, 1) := by decide +kernel
theorem dX9_fromBahia_20 : decode cX9_fromBahia 20 = .ok (.goto 5, 3) := by decide +kernel
theorem dX9_fromBahia_23 : decode cX9_fromBahia 23 = .ok (.bipush 99, 2) := by decide +kernel
theorem dX9_fromBahia_25 : decode cX9_fromBahia 25 = .ok (.ireturn, 1) := by decide +kernel
noncomputable def b_X9_fromBahia_0 (rec : Rk) (x0 x1 : Int) (h : Hp) : Option (Int × Hp) :=
  if x1 < 0 then (
    some (99, h)
  ) else (
    if 64 ≤ x1 then (
      some (99, h)
    ) else (
      ck (-2147483648 ≤ 192 + x1 ∧ 192 + x1 < 2147483648) <|
      ck (0 ≤ (192 + x1) ∧ (192 + x1) < 320) <|
      some (gI h 55 x0 (192 + x1), h)
    )
  )
noncomputable def g_X9_fromBahia (n : Nat) : Rk := Nat.rec (motive := fun _ => Rk) (fun _ _ _ => none) (fun _ rec k l h => if k = 0 then b_X9_fromBahia_0 rec (l.getD 0 0) (l.getD 1 0) h else none) n
noncomputable def f_X9_fromBahia (x0 x1 : Int) (h : Hp) : Option (Int × Hp) := g_X9_fromBahia FU 0 [x0, x1] h
set_option maxHeartbeats 4000000 in
set_option maxRecDepth 100000 in
theorem t_X9_fromBahia_0 (E : xE) (d : Nat) (rec : Rk) (r : Int × Hp) (x0 x1 : Int) (h : Hp) (hL : Lay h) (hF : b_X9_fromBahia_0 rec x0 x1 h = some r) : X E mX9_fromBahia (d + 1) (0, 0) (0, 0) 0 [some (xr 9 x0), some (xi x1)] [] h (PoI r) := by
  unfold b_X9_fromBahia_0 at hF
  refine x_iload_n (i := 1) (b := 1) dX9_fromBahia_0 rfl rfl rfl ?_
  refine x_if_lt (tgt := 23) (b := 4) dX9_fromBahia_1 (by decide) rfl (fun hc => ?_) (fun hc => ?_)
  · replace hF := br_T hc hF
    refine x_bipush (n := 99) (b := 25) dX9_fromBahia_23 (by decide) rfl ?_
    refine x_ireturn dX9_fromBahia_25 rfl ⟨Nat.le_refl _, Nat.le_refl _⟩ ?_
    cases hF
    exact ⟨rfl, rfl, hL⟩
  · replace hF := br_F hc hF
    refine x_iload_n (i := 1) (b := 5) dX9_fromBahia_4 rfl rfl rfl ?_
    refine x_bipush (n := 64) (b := 7) dX9_fromBahia_5 (by decide) rfl ?_
    refine x_icmp_ge (tgt := 23) (b := 10) dX9_fromBahia_7 (by decide) rfl (fun hc => ?_) (fun hc => ?_)
    · replace hF := br_T hc hF
      refine x_bipush (n := 99) (b := 25) dX9_fromBahia_23 (by decide) rfl ?_
      refine x_ireturn dX9_fromBahia_25 rfl ⟨Nat.le_refl _, Nat.le_refl _⟩ ?_
      cases hF
      exact ⟨rfl, rfl, hL⟩
    · replace hF := br_F hc hF
      refine x_aload_n (i := 0) (b := 11) dX9_fromBahia_10 rfl rfl rfl ?_
      refine x_getL (j := x0) (t := (55, 0, true)) (b := 14) fk_X9_47 dX9_fromBahia_11 rfl hL rfl rfl rfl ?_
      refine x_sipush (n := 192) (b := 17) dX9_fromBahia_14 (by decide) rfl ?_
      refine x_iload_n (i := 1) (b := 18) dX9_fromBahia_17 rfl rfl rfl ?_
      obtain ⟨hs, hF⟩ := ck_e hF
      refine x_iadd (b := 19) dX9_fromBahia_18 hs rfl ?_
      obtain ⟨hs, hF⟩ := ck_e hF
      refine x_iald (v := gI h 55 x0 (192 + x1)) (b := 20) ak_55 dX9_fromBahia_19 hs rfl rfl ?_
      refine x_goto (tgt := 25) dX9_fromBahia_20 (by decide) ?_
      refine x_ireturn dX9_fromBahia_25 rfl ⟨Nat.le_refl _, Nat.le_refl _⟩ ?_
      cases hF
      exact ⟨rfl, rfl, hL⟩
set_option maxHeartbeats 4000000 in
set_option maxRecDepth 100000 in
theorem u_X9_fromBahia (E : xE) (d : Nat) (r : Int × Hp) : ∀ n : Nat, (∀ (x0 x1 : Int) (h : Hp), Lay h → g_X9_fromBahia n 0 [x0, x1] h = some r → X E mX9_fromBahia (d + 1) (0, 0) (0, 0) 0 [some (xr 9 x0), some (xi x1)] [] h (PoI r)) := by
  intro n
  induction n with
  | zero => exact fun _ _ _ _ hF => no_e (r := r) hF
  | succ n ih => exact fun x0 x1 h hL hF => t_X9_fromBahia_0 E d (g_X9_fromBahia n) r  x0 x1 h hL hF
theorem c_X9_fromBahia (d : Nat) (x0 x1 : Int) (h : Hp) (r : Int × Hp) (hL : Lay h) (hF : f_X9_fromBahia x0 x1 h = some r) : Sp mX9_fromBahia (d + 1) (0, 0) [xr 9 x0, xi x1] h (PoI r) :=
  sp_of (by decide) rfl (Nat.le_of_ble_eq_true rfl) (ls := [some (xr 9 x0), some (xi x1)]) rfl (fun E _ => (u_X9_fromBahia E d r FU) x0 x1 h hL hF)
theorem dX9_fromIsle_0 : decode cX9_fromIsle 0 = .ok (.iload_n 1, 1) := by decide +kernel
theorem dX9_fromIsle_1 : decode cX9_fromIsle 1 = .ok (.ifCond .lt 22, 3) := by decide +kernel
theorem dX9_fromIsle_4 : decode cX9_fromIsle 4 = .ok (.iload_n 1, 1) := by decide +kernel
theorem dX9_fromIsle_5 : decode cX9_fromIsle 5 = .ok (.iconst 3, 1) := by decide +kernel
theorem dX9_fromIsle_6 : decode cX9_fromIsle 6 = .ok (.if_icmp .ge 17, 3) := by decide +kernel
theorem dX9_fromIsle_9 : decode cX9_fromIsle 9 = .ok (.iload_n 2, 1) := by decide +kernel
theorem dX9_fromIsle_10 : decode cX9_fromIsle 10 = .ok (.ifCond .lt 13, 3) := by decide +kernel
theorem dX9_fromIsle_13 : decode cX9_fromIsle 13 = .ok (.iload_n 2, 1) := by decide +kernel
theorem dX9_fromIsle_14 : decode cX9_fromIsle 14 = .ok (.bipush 64, 2) := by decide +kernel
theorem dX9_fromIsle_16 : decode cX9_fromIsle 16 = .ok (.if_icmp .ge 7, 3) := by decide +kernel
theorem dX9_fromIsle_19 : decode cX9_fromIsle 19 = .ok (.iconst 1, 1) := by decide +kernel
theorem dX9_fromIsle_20 : decode cX9_fromIsle 20 = .ok (.goto 4, 3) := by decide +kernel
theorem dX9_fromIsle_23 : decode cX9_fromIsle 23 = .ok (.iconst 0, 1) := by decide +kernel
theorem dX9_fromIsle_24 : decode cX9_fromIsle 24 = .ok (.istore_n 3, 1) := by decide +kernel
theorem dX9_fromIsle_25 : decode cX9_fromIsle 25 = .ok (.iload_n 3, 1) := by decide +kernel
theorem dX9_fromIsle_26 : decode cX9_fromIsle 26 = .ok (.ifCond .eq 17, 3) := by decide +kernel
theorem dX9_fromIsle_29 : decode cX9_fromIsle 29 = .ok (.aload_n 0, 1) := by decide +kernel
theorem dX9_fromIsle_30 : decode cX9_fromIsle 30 = .ok (.getfield 47, 3) := by decide +kernel
theorem dX9_fromIsle_33 : decode cX9_fromIsle 33 = .ok (.iload_n 1, 1) := by decide +kernel
theorem dX9_fromIsle_34 : decode cX9_fromIsle 34 = .ok (.bipush 64, 2) := by decide +kernel
theorem dX9_fromIsle_36 : decode cX9_fromIsle 36 = .ok (.imul, 1) := by decide +kernel
theorem dX9_fromIsle_37 : decode cX9_fromIsle 37 = .ok (.iload_n 2, 1) := by decide +kernel
theorem dX9_fromIsle_38 : decode cX9_fromIsle 38 = .ok (.iadd, 1) := by decide +kernel
theorem dX9_fromIsle_39 : decode cX9_fromIsle 39 = .ok (.iaload, 1) := by decide +kernel
theorem dX9_fromIsle_40 : decode cX9_fromIsle 40 = .ok (.goto 5, 3) := by decide +kernel
theorem dX9_fromIsle_43 : decode cX9_fromIsle 43 = .ok (.bipush 99, 2) := by decide +kernel
theorem dX9_fromIsle_45 : decode cX9_fromIsle 45 = .ok (.ireturn, 1) := by decide +kernel
noncomputable def b_X9_fromIsle_0 (rec : Rk) (x0 x1 x2 : Int) (h : Hp) : Option (Int × Hp) :=
  if x1 < 0 then (
    rec 1 [x0, x1, x2] h
  ) else (
    if 3 ≤ x1 then (
      rec 1 [x0, x1, x2] h
    ) else (
      if x2 < 0 then (
        rec 1 [x0, x1, x2] h
      ) else (
        if 64 ≤ x2 then (
          rec 1 [x0, x1, x2] h
        ) else (
          rec 2 [x0, x1, x2, 1] h
        )
      )
    )
  )
noncomputable def b_X9_fromIsle_1 (rec : Rk) (x0 x1 x2 : Int) (h : Hp) : Option (Int × Hp) :=
  rec 2 [x0, x1, x2, 0] h
noncomputable def b_X9_fromIsle_2 (rec : Rk) (x0 x1 x2 y0 : Int) (h : Hp) : Option (Int × Hp) :=
  if y0 = 0 then (
    some (99, h)
  ) else (
    ck (-2147483648 ≤ x1 * 64 ∧ x1 * 64 < 2147483648) <|
    ck (-2147483648 ≤ (x1 * 64) + x2 ∧ (x1 * 64) + x2 < 2147483648) <|
    ck (0 ≤ ((x1 * 64) + x2) ∧ ((x1 * 64) + x2) < 320) <|
    some (gI h 55 x0 ((x1 * 64) + x2), h)
  )
noncomputable def g_X9_fromIsle (n : Nat) : Rk := Nat.rec (motive := fun _ => Rk) (fun _ _ _ => none) (fun _ rec k l h => if k = 0 then b_X9_fromIsle_0 rec (l.getD 0 0) (l.getD 1 0) (l.getD 2 0) h else if k = 1 then b_X9_fromIsle_1 rec (l.getD 0 0) (l.getD 1 0) (l.getD 2 0) h else if k = 2 then b_X9_fromIsle_2 rec (l.getD 0 0) (l.getD 1 0) (l.getD 2 0) (l.getD 3 0) h else none) n
noncomputable def f_X9_fromIsle (x0 x1 x2 : Int) (h : Hp) : Option (Int × Hp) := g_X9_fromIsle FU 0 [x0, x1, x2] h
set_option maxHeartbeats 4000000 in
set_option maxRecDepth 100000 in
theorem t_X9_fromIsle_0 (E : xE) (d : Nat) (rec : Rk) (r : Int × Hp) (hr_23 : ∀ (x0 x1 x2 : Int) (h : Hp), Lay h → rec 1 [x0, x1, x2] h = some r → X E mX9_fromIsle (d + 1) (0, 0) (0, 0) 23 [some (xr 9 x0), some (xi x1), some (xi x2), none] [] h (PoI r)) (hr_24 : ∀ (x0 x1 x2 y0 : Int) (h : Hp), Lay h → rec 2 [x0, x1, x2, y0] h = some r → X E mX9_fromIsle (d + 1) (0, 0) (0, 0) 24 [some (xr 9 x0), some (xi x1), some (xi x2), none] [xi y0] h (PoI r)) (x0 x1 x2 : Int) (h : Hp) (hL : Lay h) (hF : b_X9_fromIsle_0 rec x0 x1 x2 h = some r) : X E mX9_fromIsle (d + 1) (0, 0) (0, 0) 0 [some (xr 9 x0), some (xi x1), some (xi x2), none] [] h (PoI r) := by
  unfold b_X9_fromIsle_0 at hF
  refine x_iload_n (i := 1) (b := 1) dX9_fromIsle_0 rfl rfl rfl ?_
  refine x_if_lt (tgt := 23) (b := 4) dX9_fromIsle_1 (by decide) rfl (fun hc => ?_) (fun hc => ?_)
  · replace hF := br_T hc hF
    exact x_dp (ls2 := [some (xr 9 x0), some (xi x1), some (xi x2), none]) ⟨rfl, rfl, rfl, trivial⟩ (hr_23 x0 x1 x2 h hL hF)
  · replace hF := br_F hc hF
    refine x_iload_n (i := 1) (b := 5) dX9_fromIsle_4 rfl rfl rfl ?_
    refine x_iconst (n := 3) (b := 6) dX9_fromIsle_5 (by decide) rfl ?_
    refine x_icmp_ge (tgt := 23) (b := 9) dX9_fromIsle_6 (by decide) rfl (fun hc => ?_) (fun hc => ?_)
    · replace hF := br_T hc hF
      exact x_dp (ls2 := [some (xr 9 x0), some (xi x1), some (xi x2), none]) ⟨rfl, rfl, rfl, trivial⟩ (hr_23 x0 x1 x2 h hL hF)
    · replace hF := br_F hc hF
      refine x_iload_n (i := 2) (b := 10) dX9_fromIsle_9 rfl rfl rfl ?_
      refine x_if_lt (tgt := 23) (b := 13) dX9_fromIsle_10 (by decide) rfl (fun hc => ?_) (fun hc => ?_)
      · replace hF := br_T hc hF
        exact x_dp (ls2 := [some (xr 9 x0), some (xi x1), some (xi x2), none]) ⟨rfl, rfl, rfl, trivial⟩ (hr_23 x0 x1 x2 h hL hF)
      · replace hF := br_F hc hF
        refine x_iload_n (i := 2) (b := 14) dX9_fromIsle_13 rfl rfl rfl ?_
        refine x_bipush (n := 64) (b := 16) dX9_fromIsle_14 (by decide) rfl ?_
        refine x_icmp_ge (tgt := 23) (b := 19) dX9_fromIsle_16 (by decide) rfl (fun hc => ?_) (fun hc => ?_)
        · replace hF := br_T hc hF
          exact x_dp (ls2 := [some (xr 9 x0), some (xi x1), some (xi x2), none]) ⟨rfl, rfl, rfl, trivial⟩ (hr_23 x0 x1 x2 h hL hF)
        · replace hF := br_F hc hF
          refine x_iconst (n := 1) (b := 20) dX9_fromIsle_19 (by decide) rfl ?_
          refine x_goto (tgt := 24) dX9_fromIsle_20 (by decide) ?_
          exact x_dp (ls2 := [some (xr 9 x0), some (xi x1), some (xi x2), none]) ⟨rfl, rfl, rfl, trivial⟩ (hr_24 x0 x1 x2 1 h hL hF)
set_option maxHeartbeats 4000000 in
set_option maxRecDepth 100000 in
theorem t_X9_fromIsle_1 (E : xE) (d : Nat) (rec : Rk) (r : Int × Hp) (hr_24 : ∀ (x0 x1 x2 y0 : Int) (h : Hp), Lay h → rec 2 [x0, x1, x2, y0] h = some r → X E mX9_fromIsle (d + 1) (0, 0) (0, 0) 24 [some (xr 9 x0), some (xi x1), some (xi x2), none] [xi y0] h (PoI r)) (x0 x1 x2 : Int) (h : Hp) (hL : Lay h) (hF : b_X9_fromIsle_1 rec x0 x1 x2 h = some r) : X E mX9_fromIsle (d + 1) (0, 0) (0, 0) 23 [some (xr 9 x0), some (xi x1), some (xi x2), none] [] h (PoI r) := by
  unfold b_X9_fromIsle_1 at hF
  refine x_iconst (n := 0) (b := 24) dX9_fromIsle_23 (by decide) rfl ?_
  exact x_dp (ls2 := [some (xr 9 x0), some (xi x1), some (xi x2), none]) ⟨rfl, rfl, rfl, trivial⟩ (hr_24 x0 x1 x2 0 h hL hF)
set_option maxHeartbeats 4000000 in
set_option maxRecDepth 100000 in
theorem t_X9_fromIsle_2 (E : xE) (d : Nat) (rec : Rk) (r : Int × Hp) (x0 x1 x2 y0 : Int) (h : Hp) (hL : Lay h) (hF : b_X9_fromIsle_2 rec x0 x1 x2 y0 h = some r) : X E mX9_fromIsle (d + 1) (0, 0) (0, 0) 24 [some (xr 9 x0), some (xi x1), some (xi x2), none] [xi y0] h (PoI r) := by
  unfold b_X9_fromIsle_2 at hF
  refine x_istore_n (i := 3) (b := 25) (ls2 := [some (xr 9 x0), some (xi x1), some (xi x2), some (xi y0)]) dX9_fromIsle_24 rfl (Nat.le_of_ble_eq_true rfl) rfl rfl ?_
  refine x_iload_n (i := 3) (b := 26) dX9_fromIsle_25 rfl rfl rfl ?_
  refine x_if_eq (tgt := 43) (b := 29) dX9_fromIsle_26 (by decide) rfl (fun hc => ?_) (fun hc => ?_)
  · replace hF := br_T hc hF
    refine x_bipush (n := 99) (b := 45) dX9_fromIsle_43 (by decide) rfl ?_
    refine x_ireturn dX9_fromIsle_45 rfl ⟨Nat.le_refl _, Nat.le_refl _⟩ ?_
    cases hF
    exact ⟨rfl, rfl, hL⟩
  · replace hF := br_F hc hF
    refine x_aload_n (i := 0) (b := 30) dX9_fromIsle_29 rfl rfl rfl ?_
    refine x_getL (j := x0) (t := (55, 0, true)) (b := 33) fk_X9_47 dX9_fromIsle_30 rfl hL rfl rfl rfl ?_
    refine x_iload_n (i := 1) (b := 34) dX9_fromIsle_33 rfl rfl rfl ?_
    refine x_bipush (n := 64) (b := 36) dX9_fromIsle_34 (by decide) rfl ?_
    obtain ⟨hs, hF⟩ := ck_e hF
    refine x_imul (b := 37) dX9_fromIsle_36 hs rfl ?_
    refine x_iload_n (i := 2) (b := 38) dX9_fromIsle_37 rfl rfl rfl ?_
    obtain ⟨hs, hF⟩ := ck_e hF
    refine x_iadd (b := 39) dX9_fromIsle_38 hs rfl ?_
    obtain ⟨hs, hF⟩ := ck_e hF
    refine x_iald (v := gI h 55 x0 ((x1 * 64) + x2)) (b := 40) ak_55 dX9_fromIsle_39 hs rfl rfl ?_
    refine x_goto (tgt := 45) dX9_fromIsle_40 (by decide) ?_
    refine x_ireturn dX9_fromIsle_45 rfl ⟨Nat.le_refl _, Nat.le_refl _⟩ ?_
    cases hF
    exact ⟨rfl, rfl, hL⟩
set_option maxHeartbeats 4000000 in
set_option maxRecDepth 100000 in
theorem u_X9_fromIsle (E : xE) (d : Nat) (r : Int × Hp) : ∀ n : Nat, (∀ (x0 x1 x2 : Int) (h : Hp), Lay h → g_X9_fromIsle n 0 [x0, x1, x2] h = some r → X E mX9_fromIsle (d + 1) (0, 0) (0, 0) 0 [some (xr 9 x0), some (xi x1), some (xi x2), none] [] h (PoI r)) ∧ (∀ (x0 x1 x2 : Int) (h : Hp), Lay h → g_X9_fromIsle n 1 [x0, x1, x2] h = some r → X E mX9_fromIsle (d + 1) (0, 0) (0, 0) 23 [some (xr 9 x0), some (xi x1), some (xi x2), none] [] h (PoI r)) ∧ (∀ (x0 x1 x2 y0 : Int) (h : Hp), Lay h → g_X9_fromIsle n 2 [x0, x1, x2, y0] h = some r → X E mX9_fromIsle (d + 1) (0, 0) (0, 0) 24 [some (xr 9 x0), some (xi x1), some (xi x2), none] [xi y0] h (PoI r)) := by
  intro n
  induction n with
  | zero => exact ⟨fun _ _ _ _ _ hF => no_e (r := r) hF, fun _ _ _ _ _ hF => no_e (r := r) hF, fun _ _ _ _ _ _ hF => no_e (r := r) hF⟩
  | succ n ih => exact ⟨fun x0 x1 x2 h hL hF => t_X9_fromIsle_0 E d (g_X9_fromIsle n) r ih.2.1 ih.2.2 x0 x1 x2 h hL hF, fun x0 x1 x2 h hL hF => t_X9_fromIsle_1 E d (g_X9_fromIsle n) r ih.2.2 x0 x1 x2 h hL hF, fun x0 x1 x2 y0 h hL hF => t_X9_fromIsle_2 E d (g_X9_fromIsle n) r  x0 x1 x2 y0 h hL hF⟩
theorem c_X9_fromIsle (d : Nat) (x0 x1 x2 : Int) (h : Hp) (r : Int × Hp) (hL : Lay h) (hF : f_X9_fromIsle x0 x1 x2 h = some r) : Sp mX9_fromIsle (d + 1) (0, 0) [xr 9 x0, xi x1, xi x2] h (PoI r) :=
  sp_of (by decide) rfl (Nat.le_of_ble_eq_true rfl) (ls := [some (xr 9 x0), some (xi x1), some (xi x2), none]) rfl (fun E _ => (u_X9_fromIsle E d r FU).1 x0 x1 x2 h hL hF)
theorem dX9_isCell_0 : decode cX9_isCell 0 = .ok (.iload_n 1, 1) := by decide +kernel
theorem dX9_isCell_1 : decode cX9_isCell 1 = .ok (.ifCond .lt 26, 3) := by decide +kernel
theorem dX9_isCell_4 : decode cX9_isCell 4 = .ok (.iload_n 1, 1) := by decide +kernel
theorem dX9_isCell_5 : decode cX9_isCell 5 = .ok (.aload_n 0, 1) := by decide +kernel
theorem dX9_isCell_6 : decode cX9_isCell 6 = .ok (.getfield 9, 3) := by decide +kernel
theorem dX9_isCell_9 : decode cX9_isCell 9 = .ok (.aload_n 0, 1) := by decide +kernel
theorem dX9_isCell_10 : decode cX9_isCell 10 = .ok (.getfield 15, 3) := by decide +kernel
theorem dX9_isCell_13 : decode cX9_isCell 13 = .ok (.imul, 1) := by decide +kernel
theorem dX9_isCell_14 : decode cX9_isCell 14 = .ok (.if_icmp .ge 13, 3) := by decide +kernel
theorem dX9_isCell_17 : decode cX9_isCell 17 = .ok (.iload_n 1, 1) := by decide +kernel
theorem dX9_isCell_18 : decode cX9_isCell 18 = .ok (.bipush 64, 2) := by decide +kernel
theorem dX9_isCell_20 : decode cX9_isCell 20 = .ok (.if_icmp .ge 7, 3) := by decide +kernel
theorem dX9_isCell_23 : decode cX9_isCell 23 = .ok (.iconst 1, 1) := by decide +kernel
theorem dX9_isCell_24 : decode cX9_isCell 24 = .ok (.goto 4, 3) := by decide +kernel
theorem dX9_isCell_27 : decode cX9_isCell 27 = .ok (.iconst 0, 1) := by decide +kernel
theorem dX9_isCell_28 : decode cX9_isCell 28 = .ok (.ireturn, 1) := by decide +kernel
noncomputable def b_X9_isCell_0 (rec : Rk) (x0 x1 : Int) (h : Hp) : Option (Int × Hp) :=
  if x1 < 0 then (
    some (0, h)
  ) else (
    ck (-2147483648 ≤ (gI h 9 x0 0) * (gI h 9 x0 1) ∧ (gI h 9 x0 0) * (gI h 9 x0 1) < 2147483648) <|
    if ((gI h 9 x0 0) * (gI h 9 x0 1)) ≤ x1 then (
      some (0, h)
    ) else (
      if 64 ≤ x1 then (
        some (0, h)
      ) else (
        some (1, h)
      )
    )
  )
noncomputable def g_X9_isCell (n : Nat) : Rk := Nat.rec (motive := fun _ => Rk) (fun _ _ _ => none) (fun _ rec k l h => if k = 0 then b_X9_isCell_0 rec (l.getD 0 0) (l.getD 1 0) h else none) n
noncomputable def f_X9_isCell (x0 x1 : Int) (h : Hp) : Option (Int × Hp) := g_X9_isCell FU 0 [x0, x1] h
set_option maxHeartbeats 4000000 in
set_option maxRecDepth 100000 in
theorem t_X9_isCell_0 (E : xE) (d : Nat) (rec : Rk) (r : Int × Hp) (x0 x1 : Int) (h : Hp) (hL : Lay h) (hF : b_X9_isCell_0 rec x0 x1 h = some r) : X E mX9_isCell (d + 1) (0, 0) (0, 0) 0 [some (xr 9 x0), some (xi x1)] [] h (PoI r) := by
  unfold b_X9_isCell_0 at hF
  refine x_iload_n (i := 1) (b := 1) dX9_isCell_0 rfl rfl rfl ?_
  refine x_if_lt (tgt := 27) (b := 4) dX9_isCell_1 (by decide) rfl (fun hc => ?_) (fun hc => ?_)
  · replace hF := br_T hc hF
    refine x_iconst (n := 0) (b := 28) dX9_isCell_27 (by decide) rfl ?_
    refine x_zreturn dX9_isCell_28 rfl ⟨Nat.le_refl _, Nat.le_refl _⟩ (by decide) ?_
    cases hF
    exact ⟨rfl, rfl, hL⟩
  · replace hF := br_F hc hF
    refine x_iload_n (i := 1) (b := 5) dX9_isCell_4 rfl rfl rfl ?_
    refine x_aload_n (i := 0) (b := 6) dX9_isCell_5 rfl rfl rfl ?_
    refine x_getI (v := gI h 9 x0 0) (b := 9) fk_X9_9 dX9_isCell_6 (by decide) rfl rfl ?_
    refine x_aload_n (i := 0) (b := 10) dX9_isCell_9 rfl rfl rfl ?_
    refine x_getI (v := gI h 9 x0 1) (b := 13) fk_X9_15 dX9_isCell_10 (by decide) rfl rfl ?_
    obtain ⟨hs, hF⟩ := ck_e hF
    refine x_imul (b := 14) dX9_isCell_13 hs rfl ?_
    refine x_icmp_ge (tgt := 27) (b := 17) dX9_isCell_14 (by decide) rfl (fun hc => ?_) (fun hc => ?_)
    · replace hF := br_T hc hF
      refine x_iconst (n := 0) (b := 28) dX9_isCell_27 (by decide) rfl ?_
      refine x_zreturn dX9_isCell_28 rfl ⟨Nat.le_refl _, Nat.le_refl _⟩ (by decide) ?_
      cases hF
      exact ⟨rfl, rfl, hL⟩
    · replace hF := br_F hc hF
      refine x_iload_n (i := 1) (b := 18) dX9_isCell_17 rfl rfl rfl ?_
      refine x_bipush (n := 64) (b := 20) dX9_isCell_18 (by decide) rfl ?_
      refine x_icmp_ge (tgt := 27) (b := 23) dX9_isCell_20 (by decide) rfl (fun hc => ?_) (fun hc => ?_)
      · replace hF := br_T hc hF
        refine x_iconst (n := 0) (b := 28) dX9_isCell_27 (by decide) rfl ?_
        refine x_zreturn dX9_isCell_28 rfl ⟨Nat.le_refl _, Nat.le_refl _⟩ (by decide) ?_
        cases hF
        exact ⟨rfl, rfl, hL⟩
      · replace hF := br_F hc hF
        refine x_iconst (n := 1) (b := 24) dX9_isCell_23 (by decide) rfl ?_
        refine x_goto (tgt := 28) dX9_isCell_24 (by decide) ?_
        refine x_zreturn dX9_isCell_28 rfl ⟨Nat.le_refl _, Nat.le_refl _⟩ (by decide) ?_
        cases hF
        exact ⟨rfl, rfl, hL⟩
set_option maxHeartbeats 4000000 in
set_option maxRecDepth 100000 in
theorem u_X9_isCell (E : xE) (d : Nat) (r : Int × Hp) : ∀ n : Nat, (∀ (x0 x1 : Int) (h : Hp), Lay h → g_X9_isCell n 0 [x0, x1] h = some r → X E mX9_isCell (d + 1) (0, 0) (0, 0) 0 [some (xr 9 x0), some (xi x1)] [] h (PoI r)) := by
  intro n
  induction n with
  | zero => exact fun _ _ _ _ hF => no_e (r := r) hF
  | succ n ih => exact fun x0 x1 h hL hF => t_X9_isCell_0 E d (g_X9_isCell n) r  x0 x1 h hL hF
theorem c_X9_isCell (d : Nat) (x0 x1 : Int) (h : Hp) (r : Int × Hp) (hL : Lay h) (hF : f_X9_isCell x0 x1 h = some r) : Sp mX9_isCell (d + 1) (0, 0) [xr 9 x0, xi x1] h (PoI r) :=
  sp_of (by decide) rfl (Nat.le_of_ble_eq_true rfl) (ls := [some (xr 9 x0), some (xi x1)]) rfl (fun E _ => (u_X9_isCell E d r FU) x0 x1 h hL hF)
theorem dX9_isIsle_0 : decode cX9_isIsle 0 = .ok (.iconst 0, 1) := by decide +kernel
theorem dX9_isIsle_1 : decode cX9_isIsle 1 = .ok (.istore_n 2, 1) := by decide +kernel
theorem dX9_isIsle_2 : decode cX9_isIsle 2 = .ok (.iload_n 2, 1) := by decide +kernel
theorem dX9_isIsle_3 : decode cX9_isIsle 3 = .ok (.aload_n 0, 1) := by decide +kernel
theorem dX9_isIsle_4 : decode cX9_isIsle 4 = .ok (.getfield 31, 3) := by decide +kernel
theorem dX9_isIsle_7 : decode cX9_isIsle 7 = .ok (.if_icmp .ge 26, 3) := by decide +kernel
theorem dX9_isIsle_10 : decode cX9_isIsle 10 = .ok (.iload_n 2, 1) := by decide +kernel
theorem dX9_isIsle_11 : decode cX9_isIsle 11 = .ok (.iconst 3, 1) := by decide +kernel
theorem dX9_isIsle_12 : decode cX9_isIsle 12 = .ok (.if_icmp .ge 21, 3) := by decide +kernel
theorem dX9_isIsle_15 : decode cX9_isIsle 15 = .ok (.aload_n 0, 1) := by decide +kernel
theorem dX9_isIsle_16 : decode cX9_isIsle 16 = .ok (.getfield 38, 3) := by decide +kernel
theorem dX9_isIsle_19 : decode cX9_isIsle 19 = .ok (.iload_n 2, 1) := by decide +kernel
theorem dX9_isIsle_20 : decode cX9_isIsle 20 = .ok (.iaload, 1) := by decide +kernel
theorem dX9_isIsle_21 : decode cX9_isIsle 21 = .ok (.iload_n 1, 1) := by decide +kernel
theorem dX9_isIsle_22 : decode cX9_isIsle 22 = .ok (.if_icmp .ne 5, 3) := by decide +kernel
theorem dX9_isIsle_25 : decode cX9_isIsle 25 = .ok (.iconst 1, 1) := by decide +kernel
theorem dX9_isIsle_26 : decode cX9_isIsle 26 = .ok (.ireturn, 1) := by decide +kernel
theorem dX9_isIsle_27 : decode cX9_isIsle 27 = .ok (.iinc 2 1, 3) := by decide +kernel
theorem dX9_isIsle_30 : decode cX9_isIsle 30 = .ok (.goto (-28), 3) := by decide +kernel
theorem dX9_isIsle_33 : decode cX9_isIsle 33 = .ok (.iconst 0, 1) := by decide +kernel
theorem dX9_isIsle_34 : decode cX9_isIsle 34 = .ok (.ireturn, 1) := by decide +kernel
noncomputable def b_X9_isIsle_0 (rec : Rk) (x0 x1 : Int) (h : Hp) : Option (Int × Hp) :=
  rec 1 [x0, x1, 0] h
noncomputable def b_X9_isIsle_1 (rec : Rk) (x0 x1 x2 : Int) (h : Hp) : Option (Int × Hp) :=
  if (gI h 9 x0 6) ≤ x2 then (
    some (0, h)
  ) else (
    if 3 ≤ x2 then (
      some (0, h)
    ) else (
      ck (0 ≤ x2 ∧ x2 < 3) <|
      if (gI h 52 x0 x2) = x1 then (
        some (1, h)
      ) else (
        ck (-2147483648 ≤ x2 + 1 ∧ x2 + 1 < 2147483648) <|
        rec 1 [x0, x1, x2 + 1] h
      )
    )
  )
noncomputable def g_X9_isIsle (n : Nat) : Rk := Nat.rec (motive := fun _ => Rk) (fun _ _ _ => none) (fun _ rec k l h => if k = 0 then b_X9_isIsle_0 rec (l.getD 0 0) (l.getD 1 0) h else if k = 1 then b_X9_isIsle_1 rec (l.getD 0 0) (l.getD 1 0) (l.getD 2 0) h else none) n
noncomputable def f_X9_isIsle (x0 x1 : Int) (h : Hp) : Option (Int × Hp) := g_X9_isIsle FU 0 [x0, x1] h
set_option maxHeartbeats 4000000 in
set_option maxRecDepth 100000 in
theorem t_X9_isIsle_0 (E : xE) (d : Nat) (rec : Rk) (r : Int × Hp) (hr_2 : ∀ (x0 x1 x2 : Int) (h : Hp), Lay h → rec 1 [x0, x1, x2] h = some r → X E mX9_isIsle (d + 1) (0, 0) (0, 0) 2 [some (xr 9 x0), some (xi x1), some (xi x2)] [] h (PoI r)) (x0 x1 : Int) (h : Hp) (hL : Lay h) (hF : b_X9_isIsle_0 rec x0 x1 h = some r) : X E mX9_isIsle (d + 1) (0, 0) (0, 0) 0 [some (xr 9 x0), some (xi x1), none] [] h (PoI r) := by
  unfold b_X9_isIsle_0 at hF
  refine x_iconst (n := 0) (b := 1) dX9_isIsle_0 (by decide) rfl ?_
  refine x_istore_n (i := 2) (b := 2) (ls2 := [some (xr 9 x0), some (xi x1), some (xi 0)]) dX9_isIsle_1 rfl (Nat.le_of_ble_eq_true rfl) rfl rfl ?_
  exact x_dp (ls2 := [some (xr 9 x0), some (xi x1), some (xi 0)]) ⟨rfl, rfl, rfl, trivial⟩ (hr_2 x0 x1 0 h hL hF)
set_option maxHeartbeats 4000000 in
set_option maxRecDepth 100000 in
theorem t_X9_isIsle_1 (E : xE) (d : Nat) (rec : Rk) (r : Int × Hp) (hr_2 : ∀ (x0 x1 x2 : Int) (h : Hp), Lay h → rec 1 [x0, x1, x2] h = some r → X E mX9_isIsle (d + 1) (0, 0) (0, 0) 2 [some (xr 9 x0), some (xi x1), some (xi x2)] [] h (PoI r)) (x0 x1 x2 : Int) (h : Hp) (hL : Lay h) (hF : b_X9_isIsle_1 rec x0 x1 x2 h = some r) : X E mX9_isIsle (d + 1) (0, 0) (0, 0) 2 [some (xr 9 x0), some (xi x1), some (xi x2)] [] h (PoI r) := by
  unfold b_X9_isIsle_1 at hF
  refine x_iload_n (i := 2) (b := 3) dX9_isIsle_2 rfl rfl rfl ?_
  refine x_aload_n (i := 0) (b := 4) dX9_isIsle_3 rfl rfl rfl ?_
  refine x_getI (v := gI h 9 x0 6) (b := 7) fk_X9_31 dX9_isIsle_4 (by decide) rfl rfl ?_
  refine x_icmp_ge (tgt := 33) (b := 10) dX9_isIsle_7 (by decide) rfl (fun hc => ?_) (fun hc => ?_)
  · replace hF := br_T hc hF
    refine x_iconst (n := 0) (b := 34) dX9_isIsle_33 (by decide) rfl ?_
    refine x_zreturn dX9_isIsle_34 rfl ⟨Nat.le_refl _, Nat.le_refl _⟩ (by decide) ?_
    cases hF
    exact ⟨rfl, rfl, hL⟩
  · replace hF := br_F hc hF
    refine x_iload_n (i := 2) (b := 11) dX9_isIsle_10 rfl rfl rfl ?_
    refine x_iconst (n := 3) (b := 12) dX9_isIsle_11 (by decide) rfl ?_
    refine x_icmp_ge (tgt := 33) (b := 15) dX9_isIsle_12 (by decide) rfl (fun hc => ?_) (fun hc => ?_)
    · replace hF := br_T hc hF
      refine x_iconst (n := 0) (b := 34) dX9_isIsle_33 (by decide) rfl ?_
      refine x_zreturn dX9_isIsle_34 rfl ⟨Nat.le_refl _, Nat.le_refl _⟩ (by decide) ?_
      cases hF
      exact ⟨rfl, rfl, hL⟩
    · replace hF := br_F hc hF
      refine x_aload_n (i := 0) (b := 16) dX9_isIsle_15 rfl rfl rfl ?_
      refine x_getL (j := x0) (t := (52, 0, true)) (b := 19) fk_X9_38 dX9_isIsle_16 rfl hL rfl rfl rfl ?_
      refine x_iload_n (i := 2) (b := 20) dX9_isIsle_19 rfl rfl rfl ?_
      obtain ⟨hs, hF⟩ := ck_e hF
      refine x_iald (v := gI h 52 x0 x2) (b := 21) ak_52 dX9_isIsle_20 hs rfl rfl ?_
      refine x_iload_n (i := 1) (b := 22) dX9_isIsle_21 rfl rfl rfl ?_
      refine x_icmp_ne (tgt := 27) (b := 25) dX9_isIsle_22 (by decide) rfl (fun hc => ?_) (fun hc => ?_)
      · replace hF := br_F hc hF
        obtain ⟨hs, hF⟩ := ck_e hF
        refine x_iinc (i := 2) (b := 30) (ls2 := [some (xr 9 x0), some (xi x1), some (xi (x2 + 1))]) dX9_isIsle_27 rfl (Nat.le_of_ble_eq_true rfl) hs rfl rfl ?_
        refine x_goto (tgt := 2) dX9_isIsle_30 (by decide) ?_
        exact x_dp (ls2 := [some (xr 9 x0), some (xi x1), some (xi (x2 + 1))]) ⟨rfl, rfl, rfl, trivial⟩ (hr_2 x0 x1 (x2 + 1) h hL hF)
      · replace hF := br_T hc hF
        refine x_iconst (n := 1) (b := 26) dX9_isIsle_25 (by decide) rfl ?_
        refine x_zreturn dX9_isIsle_26 rfl ⟨Nat.le_refl _, Nat.le_refl _⟩ (by decide) ?_
        cases hF
        exact ⟨rfl, rfl, hL⟩
set_option maxHeartbeats 4000000 in
set_option maxRecDepth 100000 in
theorem u_X9_isIsle (E : xE) (d : Nat) (r : Int × Hp) : ∀ n : Nat, (∀ (x0 x1 : Int) (h : Hp), Lay h → g_X9_isIsle n 0 [x0, x1] h = some r → X E mX9_isIsle (d + 1) (0, 0) (0, 0) 0 [some (xr 9 x0), some (xi x1), none] [] h (PoI r)) ∧ (∀ (x0 x1 x2 : Int) (h : Hp), Lay h → g_X9_isIsle n 1 [x0, x1, x2] h = some r → X E mX9_isIsle (d + 1) (0, 0) (0, 0) 2 [some (xr 9 x0), some (xi x1), some (xi x2)] [] h (PoI r)) := by
  intro n
  induction n with
  | zero => exact ⟨fun _ _ _ _ hF => no_e (r := r) hF, fun _ _ _ _ _ hF => no_e (r := r) hF⟩
  | succ n ih => exact ⟨fun x0 x1 h hL hF => t_X9_isIsle_0 E d (g_X9_isIsle n) r ih.2 x0 x1 h hL hF, fun x0 x1 x2 h hL hF => t_X9_isIsle_1 E d (g_X9_isIsle n) r ih.2 x0 x1 x2 h hL hF⟩
theorem c_X9_isIsle (d : Nat) (x0 x1 : Int) (h : Hp) (r : Int × Hp) (hL : Lay h) (hF : f_X9_isIsle x0 x1 h = some r) : Sp mX9_isIsle (d + 1) (0, 0) [xr 9 x0, xi x1] h (PoI r) :=
  sp_of (by decide) rfl (Nat.le_of_ble_eq_true rfl) (ls := [some (xr 9 x0), some (xi x1), none]) rfl (fun E _ => (u_X9_isIsle E d r FU).1 x0 x1 h hL hF)
theorem dX9_isLand_0 : decode cX9_isLand 0 = .ok (.aload_n 0, 1) := by decide +kernel
theorem dX9_isLand_1 : decode cX9_isLand 1 = .ok (.iload_n 1, 1) := by decide +kernel
theorem dX9_isLand_2 : decode cX9_isLand 2 = .ok (.invokevirtual 53, 3) := by decide +kernel
theorem dX9_isLand_5 : decode cX9_isLand 5 = .ok (.ifCond .eq 20, 3) := by decide +kernel
theorem dX9_isLand_8 : decode cX9_isLand 8 = .ok (.aload_n 0, 1) := by decide +kernel
theorem dX9_isLand_9 : decode cX9_isLand 9 = .ok (.getfield 18, 3) := by decide +kernel
theorem dX9_isLand_12 : decode cX9_isLand 12 = .ok (.iload_n 1, 1) := by decide +kernel
theorem dX9_isLand_13 : decode cX9_isLand 13 = .ok (.lushr, 1) := by decide +kernel
theorem dX9_isLand_14 : decode cX9_isLand 14 = .ok (.lconst 1, 1) := by decide +kernel
theorem dX9_isLand_15 : decode cX9_isLand 15 = .ok (.land, 1) := by decide +kernel
theorem dX9_isLand_16 : decode cX9_isLand 16 = .ok (.lconst 0, 1) := by decide +kernel
theorem dX9_isLand_17 : decode cX9_isLand 17 = .ok (.lcmp, 1) := by decide +kernel
theorem dX9_isLand_18 : decode cX9_isLand 18 = .ok (.ifCond .eq 7, 3) := by decide +kernel
theorem dX9_isLand_21 : decode cX9_isLand 21 = .ok (.iconst 1, 1) := by decide +kernel
theorem dX9_isLand_22 : decode cX9_isLand 22 = .ok (.goto 4, 3) := by decide +kernel
theorem dX9_isLand_25 : decode cX9_isLand 25 = .ok (.iconst 0, 1) := by decide +kernel
theorem dX9_isLand_26 : decode cX9_isLand 26 = .ok (.ireturn, 1) := by decide +kernel
noncomputable def b_X9_isLand_0 (rec : Rk) (x0 x1 : Int) (h : Hp) : Option (Int × Hp) :=
  bd (f_X9_isCell x0 x1 h) fun v1 h2 =>
  if v1 = 0 then (
    some (0, h2)
  ) else (
    if (lc (bandL (bushrL (gI h2 9 x0 2) x1) 1) 0) = 0 then (
      some (0, h2)
    ) else (
      some (1, h2)
    )
  )
noncomputable def g_X9_isLand (n : Nat) : Rk := Nat.rec (motive := fun _ => Rk) (fun _ _ _ => none) (fun _ rec k l h => if k = 0 then b_X9_isLand_0 rec (l.getD 0 0) (l.getD 1 0) h else none) n
noncomputable def f_X9_isLand (x0 x1 : Int) (h : Hp) : Option (Int × Hp) := g_X9_isLand FU 0 [x0, x1] h
set_option maxHeartbeats 4000000 in
set_option maxRecDepth 100000 in
theorem t_X9_isLand_0 (E : xE) (d : Nat) (rec : Rk) (r : Int × Hp) (x0 x1 : Int) (h : Hp) (hL : Lay h) (hF : b_X9_isLand_0 rec x0 x1 h = some r) : X E mX9_isLand (d + 2) (0, 0) (0, 0) 0 [some (xr 9 x0), some (xi x1)] [] h (PoI r) := by
  unfold b_X9_isLand_0 at hF
  refine x_aload_n (i := 0) (b := 1) dX9_isLand_0 rfl rfl rfl ?_
  refine x_iload_n (i := 1) (b := 2) dX9_isLand_1 rfl rfl rfl ?_
  obtain ⟨v1, h2, hq, hF⟩ := bd_e hF
  refine x_callV (as := [xi x1]) (rest := []) (b := 5) (c_X9_isCell d x0 x1 h _ hL hq) dX9_isLand_2 cw_X9_53 ⟨_, _, rfl, Nat.le_of_ble_eq_true rfl⟩ rfl rfl (Nat.le_of_ble_eq_true rfl) ⟨Nat.le_refl _, Nat.le_refl _⟩ rfl (fun rv hh hp _ => ?_)
  obtain ⟨rfl, rfl, hL⟩ := hp
  refine x_if_eq (tgt := 25) (b := 8) dX9_isLand_5 (by decide) rfl (fun hc => ?_) (fun hc => ?_)
  · replace hF := br_T hc hF
    refine x_iconst (n := 0) (b := 26) dX9_isLand_25 (by decide) rfl ?_
    refine x_zreturn dX9_isLand_26 rfl ⟨Nat.le_refl _, Nat.le_refl _⟩ (by decide) ?_
    cases hF
    exact ⟨rfl, rfl, hL⟩
  · replace hF := br_F hc hF
    refine x_aload_n (i := 0) (b := 9) dX9_isLand_8 rfl rfl rfl ?_
    refine x_getJ (v := gI h2 9 x0 2) (b := 12) fk_X9_18 dX9_isLand_9 rfl rfl rfl ?_
    refine x_iload_n (i := 1) (b := 13) dX9_isLand_12 rfl rfl rfl ?_
    refine x_lushr (b := 14) dX9_isLand_13 rfl ?_
    refine x_lconst (z := 1) (b := 15) dX9_isLand_14 rfl (by decide) rfl ?_
    refine x_land (b := 16) dX9_isLand_15 rfl ?_
    refine x_lconst (z := 0) (b := 17) dX9_isLand_16 rfl (by decide) rfl ?_
    refine x_lcmp (b := 18) dX9_isLand_17 rfl ?_
    refine x_if_eq (tgt := 25) (b := 21) dX9_isLand_18 (by decide) rfl (fun hc => ?_) (fun hc => ?_)
    · replace hF := br_T hc hF
      refine x_iconst (n := 0) (b := 26) dX9_isLand_25 (by decide) rfl ?_
      refine x_zreturn dX9_isLand_26 rfl ⟨Nat.le_refl _, Nat.le_refl _⟩ (by decide) ?_
      cases hF
      exact ⟨rfl, rfl, hL⟩
    · replace hF := br_F hc hF
      refine x_iconst (n := 1) (b := 22) dX9_isLand_21 (by decide) rfl ?_
      refine x_goto (tgt := 26) dX9_isLand_22 (by decide) ?_
      refine x_zreturn dX9_isLand_26 rfl ⟨Nat.le_refl _, Nat.le_refl _⟩ (by decide) ?_
      cases hF
      exact ⟨rfl, rfl, hL⟩
set_option maxHeartbeats 4000000 in
set_option maxRecDepth 100000 in
theorem u_X9_isLand (E : xE) (d : Nat) (r : Int × Hp) : ∀ n : Nat, (∀ (x0 x1 : Int) (h : Hp), Lay h → g_X9_isLand n 0 [x0, x1] h = some r → X E mX9_isLand (d + 2) (0, 0) (0, 0) 0 [some (xr 9 x0), some (xi x1)] [] h (PoI r)) := by
  intro n
  induction n with
  | zero => exact fun _ _ _ _ hF => no_e (r := r) hF
  | succ n ih => exact fun x0 x1 h hL hF => t_X9_isLand_0 E d (g_X9_isLand n) r  x0 x1 h hL hF
theorem c_X9_isLand (d : Nat) (x0 x1 : Int) (h : Hp) (r : Int × Hp) (hL : Lay h) (hF : f_X9_isLand x0 x1 h = some r) : Sp mX9_isLand (d + 2) (0, 0) [xr 9 x0, xi x1] h (PoI r) :=
  sp_of (by decide) rfl (Nat.le_of_ble_eq_true rfl) (ls := [some (xr 9 x0), some (xi x1)]) rfl (fun E _ => (u_X9_isLand E d r FU) x0 x1 h hL hF)
theorem dX9_isWater_0 : decode cX9_isWater 0 = .ok (.aload_n 0, 1) := by decide +kernel
theorem dX9_isWater_1 : decode cX9_isWater 1 = .ok (.iload_n 1, 1) := by decide +kernel
theorem dX9_isWater_2 : decode cX9_isWater 2 = .ok (.invokevirtual 53, 3) := by decide +kernel
theorem dX9_isWater_5 : decode cX9_isWater 5 = .ok (.ifCond .eq 20, 3) := by decide +kernel
theorem dX9_isWater_8 : decode cX9_isWater 8 = .ok (.aload_n 0, 1) := by decide +kernel
theorem dX9_isWater_9 : decode cX9_isWater 9 = .ok (.getfield 18, 3) := by decide +kernel
theorem dX9_isWater_12 : decode cX9_isWater 12 = .ok (.iload_n 1, 1) := by decide +kernel
theorem dX9_isWater_13 : decode cX9_isWater 13 = .ok (.lushr, 1) := by decide +kernel
theorem dX9_isWater_14 : decode cX9_isWater 14 = .ok (.lconst 1, 1) := by decide +kernel
theorem dX9_isWater_15 : decode cX9_isWater 15 = .ok (.land, 1) := by decide +kernel
theorem dX9_isWater_16 : decode cX9_isWater 16 = .ok (.lconst 0, 1) := by decide +kernel
theorem dX9_isWater_17 : decode cX9_isWater 17 = .ok (.lcmp, 1) := by decide +kernel
theorem dX9_isWater_18 : decode cX9_isWater 18 = .ok (.ifCond .ne 7, 3) := by decide +kernel
theorem dX9_isWater_21 : decode cX9_isWater 21 = .ok (.iconst 1, 1) := by decide +kernel
theorem dX9_isWater_22 : decode cX9_isWater 22 = .ok (.goto 4, 3) := by decide +kernel
theorem dX9_isWater_25 : decode cX9_isWater 25 = .ok (.iconst 0, 1) := by decide +kernel
theorem dX9_isWater_26 : decode cX9_isWater 26 = .ok (.ireturn, 1) := by decide +kernel
noncomputable def b_X9_isWater_0 (rec : Rk) (x0 x1 : Int) (h : Hp) : Option (Int × Hp) :=
  bd (f_X9_isCell x0 x1 h) fun v1 h2 =>
  if v1 = 0 then (
    some (0, h2)
  ) else (
    if (lc (bandL (bushrL (gI h2 9 x0 2) x1) 1) 0) = 0 then (
      some (1, h2)
    ) else (
      some (0, h2)
    )
  )
noncomputable def g_X9_isWater (n : Nat) : Rk := Nat.rec (motive := fun _ => Rk) (fun _ _ _ => none) (fun _ rec k l h => if k = 0 then b_X9_isWater_0 rec (l.getD 0 0) (l.getD 1 0) h else none) n
noncomputable def f_X9_isWater (x0 x1 : Int) (h : Hp) : Option (Int × Hp) := g_X9_isWater FU 0 [x0, x1] h
set_option maxHeartbeats 4000000 in
set_option maxRecDepth 100000 in
theorem t_X9_isWater_0 (E : xE) (d : Nat) (rec : Rk) (r : Int × Hp) (x0 x1 : Int) (h : Hp) (hL : Lay h) (hF : b_X9_isWater_0 rec x0 x1 h = some r) : X E mX9_isWater (d + 2) (0, 0) (0, 0) 0 [some (xr 9 x0), some (xi x1)] [] h (PoI r) := by
  unfold b_X9_isWater_0 at hF
  refine x_aload_n (i := 0) (b := 1) dX9_isWater_0 rfl rfl rfl ?_
  refine x_iload_n (i := 1) (b := 2) dX9_isWater_1 rfl rfl rfl ?_
  obtain ⟨v1, h2, hq, hF⟩ := bd_e hF
  refine x_callV (as := [xi x1]) (rest := []) (b := 5) (c_X9_isCell d x0 x1 h _ hL hq) dX9_isWater_2 cw_X9_53 ⟨_, _, rfl, Nat.le_of_ble_eq_true rfl⟩ rfl rfl (Nat.le_of_ble_eq_true rfl) ⟨Nat.le_refl _, Nat.le_refl _⟩ rfl (fun rv hh hp _ => ?_)
  obtain ⟨rfl, rfl, hL⟩ := hp
  refine x_if_eq (tgt := 25) (b := 8) dX9_isWater_5 (by decide) rfl (fun hc => ?_) (fun hc => ?_)
  · replace hF := br_T hc hF
    refine x_iconst (n := 0) (b := 26) dX9_isWater_25 (by decide) rfl ?_
    refine x_zreturn dX9_isWater_26 rfl ⟨Nat.le_refl _, Nat.le_refl _⟩ (by decide) ?_
    cases hF
    exact ⟨rfl, rfl, hL⟩
  · replace hF := br_F hc hF
    refine x_aload_n (i := 0) (b := 9) dX9_isWater_8 rfl rfl rfl ?_
    refine x_getJ (v := gI h2 9 x0 2) (b := 12) fk_X9_18 dX9_isWater_9 rfl rfl rfl ?_
    refine x_iload_n (i := 1) (b := 13) dX9_isWater_12 rfl rfl rfl ?_
    refine x_lushr (b := 14) dX9_isWater_13 rfl ?_
    refine x_lconst (z := 1) (b := 15) dX9_isWater_14 rfl (by decide) rfl ?_
    refine x_land (b := 16) dX9_isWater_15 rfl ?_
    refine x_lconst (z := 0) (b := 17) dX9_isWater_16 rfl (by decide) rfl ?_
    refine x_lcmp (b := 18) dX9_isWater_17 rfl ?_
    refine x_if_ne (tgt := 25) (b := 21) dX9_isWater_18 (by decide) rfl (fun hc => ?_) (fun hc => ?_)
    · replace hF := br_F hc hF
      refine x_iconst (n := 0) (b := 26) dX9_isWater_25 (by decide) rfl ?_
      refine x_zreturn dX9_isWater_26 rfl ⟨Nat.le_refl _, Nat.le_refl _⟩ (by decide) ?_
      cases hF
      exact ⟨rfl, rfl, hL⟩
    · replace hF := br_T hc hF
      refine x_iconst (n := 1) (b := 22) dX9_isWater_21 (by decide) rfl ?_
      refine x_goto (tgt := 26) dX9_isWater_22 (by decide) ?_
      refine x_zreturn dX9_isWater_26 rfl ⟨Nat.le_refl _, Nat.le_refl _⟩ (by decide) ?_
      cases hF
      exact ⟨rfl, rfl, hL⟩
set_option maxHeartbeats 4000000 in
set_option maxRecDepth 100000 in
theorem u_X9_isWater (E : xE) (d : Nat) (r : Int × Hp) : ∀ n : Nat, (∀ (x0 x1 : Int) (h : Hp), Lay h → g_X9_isWater n 0 [x0, x1] h = some r → X E mX9_isWater (d + 2) (0, 0) (0, 0) 0 [some (xr 9 x0), some (xi x1)] [] h (PoI r)) := by
  intro n
  induction n with
  | zero => exact fun _ _ _ _ hF => no_e (r := r) hF
  | succ n ih => exact fun x0 x1 h hL hF => t_X9_isWater_0 E d (g_X9_isWater n) r  x0 x1 h hL hF
theorem c_X9_isWater (d : Nat) (x0 x1 : Int) (h : Hp) (r : Int × Hp) (hL : Lay h) (hF : f_X9_isWater x0 x1 h = some r) : Sp mX9_isWater (d + 2) (0, 0) [xr 9 x0, xi x1] h (PoI r) :=
  sp_of (by decide) rfl (Nat.le_of_ble_eq_true rfl) (ls := [some (xr 9 x0), some (xi x1)]) rfl (fun E _ => (u_X9_isWater E d r FU) x0 x1 h hL hF)
theorem dX9_isleNamed_0 : decode cX9_isleNamed 0 = .ok (.iconst 0, 1) := by decide +kernel
theorem dX9_isleNamed_1 : decode cX9_isleNamed 1 = .ok (.istore_n 2, 1) := by decide +kernel
theorem dX9_isleNamed_2 : decode cX9_isleNamed 2 = .ok (.iload_n 2, 1) := by decide +kernel
theorem dX9_isleNamed_3 : decode cX9_isleNamed 3 = .ok (.aload_n 0, 1) := by decide +kernel
theorem dX9_isleNamed_4 : decode cX9_isleNamed 4 = .ok (.getfield 31, 3) := by decide +kernel
theorem dX9_isleNamed_7 : decode cX9_isleNamed 7 = .ok (.if_icmp .ge 26, 3) := by decide +kernel
theorem dX9_isleNamed_10 : decode cX9_isleNamed 10 = .ok (.iload_n 2, 1) := by decide +kernel
theorem dX9_isleNamed_11 : decode cX9_isleNamed 11 = .ok (.iconst 3, 1) := by decide +kernel
theorem dX9_isleNamed_12 : decode cX9_isleNamed 12 = .ok (.if_icmp .ge 21, 3) := by decide +kernel
theorem dX9_isleNamed_15 : decode cX9_isleNamed 15 = .ok (.aload_n 0, 1) := by decide +kernel
theorem dX9_isleNamed_16 : decode cX9_isleNamed 16 = .ok (.getfield 34, 3) := by decide +kernel
theorem dX9_isleNamed_19 : decode cX9_isleNamed 19 = .ok (.iload_n 2, 1) := by decide +kernel
theorem dX9_isleNamed_20 : decode cX9_isleNamed 20 = .ok (.iaload, 1) := by decide +kernel
theorem dX9_isleNamed_21 : decode cX9_isleNamed 21 = .ok (.iload_n 1, 1) := by decide +kernel
theorem dX9_isleNamed_22 : decode cX9_isleNamed 22 = .ok (.if_icmp .ne 5, 3) := by decide +kernel
theorem dX9_isleNamed_25 : decode cX9_isleNamed 25 = .ok (.iload_n 2, 1) := by decide +kernel
theorem dX9_isleNamed_26 : decode cX9_isleNamed 26 = .ok (.ireturn, 1) := by decide +kernel
theorem dX9_isleNamed_27 : decode cX9_isleNamed 27 = .ok (.iinc 2 1, 3) := by decide +kernel
theorem dX9_isleNamed_30 : decode cX9_isleNamed 30 = .ok (.goto (-28), 3) := by decide +kernel
theorem dX9_isleNamed_33 : decode cX9_isleNamed 33 = .ok (.iconst (-1), 1) := by decide +kernel
theorem dX9_isleNamed_34 : decode cX9_isleNamed 34 = .ok (.ireturn, 1) := by decide +kernel
noncomputable def b_X9_isleNamed_0 (rec : Rk) (x0 x1 : Int) (h : Hp) : Option (Int × Hp) :=
  rec 1 [x0, x1, 0] h
noncomputable def b_X9_isleNamed_1 (rec : Rk) (x0 x1 x2 : Int) (h : Hp) : Option (Int × Hp) :=
  if (gI h 9 x0 6) ≤ x2 then (
    some ((-1), h)
  ) else (
    if 3 ≤ x2 then (
      some ((-1), h)
    ) else (
      ck (0 ≤ x2 ∧ x2 < 3) <|
      if (gI h 51 x0 x2) = x1 then (
        some (x2, h)
      ) else (
        ck (-2147483648 ≤ x2 + 1 ∧ x2 + 1 < 2147483648) <|
        rec 1 [x0, x1, x2 + 1] h
      )
    )
  )
noncomputable def g_X9_isleNamed (n : Nat) : Rk := Nat.rec (motive := fun _ => Rk) (fun _ _ _ => none) (fun _ rec k l h => if k = 0 then b_X9_isleNamed_0 rec (l.getD 0 0) (l.getD 1 0) h else if k = 1 then b_X9_isleNamed_1 rec (l.getD 0 0) (l.getD 1 0) (l.getD 2 0) h else none) n
noncomputable def f_X9_isleNamed (x0 x1 : Int) (h : Hp) : Option (Int × Hp) := g_X9_isleNamed FU 0 [x0, x1] h
set_option maxHeartbeats 4000000 in
set_option maxRecDepth 100000 in
theorem t_X9_isleNamed_0 (E : xE) (d : Nat) (rec : Rk) (r : Int × Hp) (hr_2 : ∀ (x0 x1 x2 : Int) (h : Hp), Lay h → rec 1 [x0, x1, x2] h = some r → X E mX9_isleNamed (d + 1) (0, 0) (0, 0) 2 [some (xr 9 x0), some (xi x1), some (xi x2)] [] h (PoI r)) (x0 x1 : Int) (h : Hp) (hL : Lay h) (hF : b_X9_isleNamed_0 rec x0 x1 h = some r) : X E mX9_isleNamed (d + 1) (0, 0) (0, 0) 0 [some (xr 9 x0), some (xi x1), none] [] h (PoI r) := by
  unfold b_X9_isleNamed_0 at hF
  refine x_iconst (n := 0) (b := 1) dX9_isleNamed_0 (by decide) rfl ?_
  refine x_istore_n (i := 2) (b := 2) (ls2 := [some (xr 9 x0), some (xi x1), some (xi 0)]) dX9_isleNamed_1 rfl (Nat.le_of_ble_eq_true rfl) rfl rfl ?_
  exact x_dp (ls2 := [some (xr 9 x0), some (xi x1), some (xi 0)]) ⟨rfl, rfl, rfl, trivial⟩ (hr_2 x0 x1 0 h hL hF)
set_option maxHeartbeats 4000000 in
set_option maxRecDepth 100000 in
theorem t_X9_isleNamed_1 (E : xE) (d : Nat) (rec : Rk) (r : Int × Hp) (hr_2 : ∀ (x0 x1 x2 : Int) (h : Hp), Lay h → rec 1 [x0, x1, x2] h = some r → X E mX9_isleNamed (d + 1) (0, 0) (0, 0) 2 [some (xr 9 x0), some (xi x1), some (xi x2)] [] h (PoI r)) (x0 x1 x2 : Int) (h : Hp) (hL : Lay h) (hF : b_X9_isleNamed_1 rec x0 x1 x2 h = some r) : X E mX9_isleNamed (d + 1) (0, 0) (0, 0) 2 [some (xr 9 x0), some (xi x1), some (xi x2)] [] h (PoI r) := by
  unfold b_X9_isleNamed_1 at hF
  refine x_iload_n (i := 2) (b := 3) dX9_isleNamed_2 rfl rfl rfl ?_
  refine x_aload_n (i := 0) (b := 4) dX9_isleNamed_3 rfl rfl rfl ?_
  refine x_getI (v := gI h 9 x0 6) (b := 7) fk_X9_31 dX9_isleNamed_4 (by decide) rfl rfl ?_
  refine x_icmp_ge (tgt := 33) (b := 10) dX9_isleNamed_7 (by decide) rfl (fun hc => ?_) (fun hc => ?_)
  · replace hF := br_T hc hF
    refine x_iconst (n := (-1)) (b := 34) dX9_isleNamed_33 (by decide) rfl ?_
    refine x_ireturn dX9_isleNamed_34 rfl ⟨Nat.le_refl _, Nat.le_refl _⟩ ?_
    cases hF
    exact ⟨rfl, rfl, hL⟩
  · replace hF := br_F hc hF
    refine x_iload_n (i := 2) (b := 11) dX9_isleNamed_10 rfl rfl rfl ?_
    refine x_iconst (n := 3) (b := 12) dX9_isleNamed_11 (by decide) rfl ?_
    refine x_icmp_ge (tgt := 33) (b := 15) dX9_isleNamed_12 (by decide) rfl (fun hc => ?_) (fun hc => ?_)
    · replace hF := br_T hc hF
      refine x_iconst (n := (-1)) (b := 34) dX9_isleNamed_33 (by decide) rfl ?_
      refine x_ireturn dX9_isleNamed_34 rfl ⟨Nat.le_refl _, Nat.le_refl _⟩ ?_
      cases hF
      exact ⟨rfl, rfl, hL⟩
    · replace hF := br_F hc hF
      refine x_aload_n (i := 0) (b := 16) dX9_isleNamed_15 rfl rfl rfl ?_
      refine x_getL (j := x0) (t := (51, 0, true)) (b := 19) fk_X9_34 dX9_isleNamed_16 rfl hL rfl rfl rfl ?_
      refine x_iload_n (i := 2) (b := 20) dX9_isleNamed_19 rfl rfl rfl ?_
      obtain ⟨hs, hF⟩ := ck_e hF
      refine x_iald (v := gI h 51 x0 x2) (b := 21) ak_51 dX9_isleNamed_20 hs rfl rfl ?_
      refine x_iload_n (i := 1) (b := 22) dX9_isleNamed_21 rfl rfl rfl ?_
      refine x_icmp_ne (tgt := 27) (b := 25) dX9_isleNamed_22 (by decide) rfl (fun hc => ?_) (fun hc => ?_)
      · replace hF := br_F hc hF
        obtain ⟨hs, hF⟩ := ck_e hF
        refine x_iinc (i := 2) (b := 30) (ls2 := [some (xr 9 x0), some (xi x1), some (xi (x2 + 1))]) dX9_isleNamed_27 rfl (Nat.le_of_ble_eq_true rfl) hs rfl rfl ?_
        refine x_goto (tgt := 2) dX9_isleNamed_30 (by decide) ?_
        exact x_dp (ls2 := [some (xr 9 x0), some (xi x1), some (xi (x2 + 1))]) ⟨rfl, rfl, rfl, trivial⟩ (hr_2 x0 x1 (x2 + 1) h hL hF)
      · replace hF := br_T hc hF
        refine x_iload_n (i := 2) (b := 26) dX9_isleNamed_25 rfl rfl rfl ?_
        refine x_ireturn dX9_isleNamed_26 rfl ⟨Nat.le_refl _, Nat.le_refl _⟩ ?_
        cases hF
        exact ⟨rfl, rfl, hL⟩
set_option maxHeartbeats 4000000 in
set_option maxRecDepth 100000 in
theorem u_X9_isleNamed (E : xE) (d : Nat) (r : Int × Hp) : ∀ n : Nat, (∀ (x0 x1 : Int) (h : Hp), Lay h → g_X9_isleNamed n 0 [x0, x1] h = some r → X E mX9_isleNamed (d + 1) (0, 0) (0, 0) 0 [some (xr 9 x0), some (xi x1), none] [] h (PoI r)) ∧ (∀ (x0 x1 x2 : Int) (h : Hp), Lay h → g_X9_isleNamed n 1 [x0, x1, x2] h = some r → X E mX9_isleNamed (d + 1) (0, 0) (0, 0) 2 [some (xr 9 x0), some (xi x1), some (xi x2)] [] h (PoI r)) := by
  intro n
  induction n with
  | zero => exact ⟨fun _ _ _ _ hF => no_e (r := r) hF, fun _ _ _ _ _ hF => no_e (r := r) hF⟩
  | succ n ih => exact ⟨fun x0 x1 h hL hF => t_X9_isleNamed_0 E d (g_X9_isleNamed n) r ih.2 x0 x1 h hL hF, fun x0 x1 x2 h hL hF => t_X9_isleNamed_1 E d (g_X9_isleNamed n) r ih.2 x0 x1 x2 h hL hF⟩
theorem c_X9_isleNamed (d : Nat) (x0 x1 : Int) (h : Hp) (r : Int × Hp) (hL : Lay h) (hF : f_X9_isleNamed x0 x1 h = some r) : Sp mX9_isleNamed (d + 1) (0, 0) [xr 9 x0, xi x1] h (PoI r) :=
  sp_of (by decide) rfl (Nat.le_of_ble_eq_true rfl) (ls := [some (xr 9 x0), some (xi x1), none]) rfl (fun E _ => (u_X9_isleNamed E d r FU).1 x0 x1 h hL hF)
theorem dX9_step_0 : decode cX9_step 0 = .ok (.aload_n 0, 1) := by decide +kernel
theorem dX9_step_1 : decode cX9_step 1 = .ok (.iload_n 1, 1) := by decide +kernel
theorem dX9_step_2 : decode cX9_step 2 = .ok (.invokevirtual 53, 3) := by decide +kernel
theorem dX9_step_5 : decode cX9_step 5 = .ok (.ifCond .eq 11, 3) := by decide +kernel
theorem dX9_step_8 : decode cX9_step 8 = .ok (.aload_n 0, 1) := by decide +kernel
theorem dX9_step_9 : decode cX9_step 9 = .ok (.getfield 9, 3) := by decide +kernel
theorem dX9_step_12 : decode cX9_step 12 = .ok (.iconst 1, 1) := by decide +kernel
theorem dX9_step_13 : decode cX9_step 13 = .ok (.if_icmp .ge 5, 3) := by decide +kernel
theorem dX9_step_16 : decode cX9_step 16 = .ok (.iconst (-1), 1) := by decide +kernel
theorem dX9_step_17 : decode cX9_step 17 = .ok (.ireturn, 1) := by decide +kernel
theorem dX9_step_18 : decode cX9_step 18 = .ok (.iload_n 1, 1) := by decide +kernel
theorem dX9_step_19 : decode cX9_step 19 = .ok (.aload_n 0, 1) := by decide +kernel
theorem dX9_step_20 : decode cX9_step 20 = .ok (.getfield 9, 3) := by decide +kernel
theorem dX9_step_23 : decode cX9_step 23 = .ok (.irem, 1) := by decide +kernel
theorem dX9_step_24 : decode cX9_step 24 = .ok (.istore_n 3, 1) := by decide +kernel
theorem dX9_step_25 : decode cX9_step 25 = .ok (.iload_n 2, 1) := by decide +kernel
theorem dX9_step_26 : decode cX9_step 26 = .ok (.tableswitch 103 0 3 #[30, 49, 67, 91], 30) := by decide +kernel
theorem dX9_step_56 : decode cX9_step 56 = .ok (.iload_n 1, 1) := by decide +kernel
theorem dX9_step_57 : decode cX9_step 57 = .ok (.aload_n 0, 1) := by decide +kernel
theorem dX9_step_58 : decode cX9_step 58 = .ok (.getfield 9, 3) := by decide +kernel
theorem dX9_step_61 : decode cX9_step 61 = .ok (.if_icmp .lt 12, 3) := by decide +kernel
theorem dX9_step_64 : decode cX9_step 64 = .ok (.iload_n 1, 1) := by decide +kernel
theorem dX9_step_65 : decode cX9_step 65 = .ok (.aload_n 0, 1) := by decide +kernel
theorem dX9_step_66 : decode cX9_step 66 = .ok (.getfield 9, 3) := by decide +kernel
theorem dX9_step_69 : decode cX9_step 69 = .ok (.isub, 1) := by decide +kernel
theorem dX9_step_70 : decode cX9_step 70 = .ok (.goto 4, 3) := by decide +kernel
theorem dX9_step_73 : decode cX9_step 73 = .ok (.iconst (-1), 1) := by decide +kernel
theorem dX9_step_74 : decode cX9_step 74 = .ok (.ireturn, 1) := by decide +kernel
theorem dX9_step_75 : decode cX9_step 75 = .ok (.iload_n 3, 1) := by decide +kernel
theorem dX9_step_76 : decode cX9_step 76 = .ok (.iconst 1, 1) := by decide +kernel
theorem dX9_step_77 : decode cX9_step 77 = .ok (.iadd, 1) := by decide +kernel
theorem dX9_step_78 : decode cX9_step 78 = .ok (.aload_n 0, 1) := by decide +kernel
theorem dX9_step_79 : decode cX9_step 79 = .ok (.getfield 9, 3) := by decide +kernel
theorem dX9_step_82 : decode cX9_step 82 = .ok (.if_icmp .ge 9, 3) := by decide +kernel
theorem dX9_step_85 : decode cX9_step 85 = .ok (.iload_n 1, 1) := by decide +kernel
theorem dX9_step_86 : decode cX9_step 86 = .ok (.iconst 1, 1) := by decide +kernel
theorem dX9_step_87 : decode cX9_step 87 = .ok (.iadd, 1) := by decide +kernel
theorem dX9_step_88 : decode cX9_step 88 = .ok (.goto 4, 3) := by decide +kernel
theorem dX9_step_91 : decode cX9_step 91 = .ok (.iconst (-1), 1) := by decide +kernel
theorem dX9_step_92 : decode cX9_step 92 = .ok (.ireturn, 1) := by decide +kernel
theorem dX9_step_93 : decode cX9_step 93 = .ok (.aload_n 0, 1) := by decide +kernel
theorem dX9_step_94 : decode cX9_step 94 = .ok (.iload_n 1, 1) := by decide +kernel
theorem dX9_step_95 : decode cX9_step 95 = .ok (.aload_n 0, 1) := by decide +kernel
theorem dX9_step_96 : decode cX9_step 96 = .ok (.getfield 9, 3) := by decide +kernel
theorem dX9_step_99 : decode cX9_step 99 = .ok (.iadd, 1) := by decide +kernel
theorem dX9_step_100 : decode cX9_step 100 = .ok (.invokevirtual 53, 3) := by decide +kernel
theorem dX9_step_103 : decode cX9_step 103 = .ok (.ifCond .eq 12, 3) := by decide +kernel
theorem dX9_step_106 : decode cX9_step 106 = .ok (.iload_n 1, 1) := by decide +kernel
theorem dX9_step_107 : decode cX9_step 107 = .ok (.aload_n 0, 1) := by decide +kernel
theorem dX9_step_108 : decode cX9_step 108 = .ok (.getfield 9, 3) := by decide +kernel
theorem dX9_step_111 : decode cX9_step 111 = .ok (.iadd, 1) := by decide +kernel
theorem dX9_step_112 : decode cX9_step 112 = .ok (.goto 4, 3) := by decide +kernel
theorem dX9_step_115 : decode cX9_step 115 = .ok (.iconst (-1), 1) := by decide +kernel
theorem dX9_step_116 : decode cX9_step 116 = .ok (.ireturn, 1) := by decide +kernel
theorem dX9_step_117 : decode cX9_step 117 = .ok (.iload_n 3, 1) := by decide +kernel
theorem dX9_step_118 : decode cX9_step 118 = .ok (.ifCond .le 9, 3) := by decide +kernel
theorem dX9_step_121 : decode cX9_step 121 = .ok (.iload_n 1, 1) := by decide +kernel
theorem dX9_step_122 : decode cX9_step 122 = .ok (.iconst 1, 1) := by decide +kernel
theorem dX9_step_123 : decode cX9_step 123 = .ok (.isub, 1) := by decide +kernel
theorem dX9_step_124 : decode cX9_step 124 = .ok (.goto 4, 3) := by decide +kernel
theorem dX9_step_127 : decode cX9_step 127 = .ok (.iconst (-1), 1) := by decide +kernel
theorem dX9_step_128 : decode cX9_step 128 = .ok (.ireturn, 1) := by decide +kernel
theorem dX9_step_129 : decode cX9_step 129 = .ok (.iconst (-1), 1) := by decide +kernel
theorem dX9_step_130 : decode cX9_step 130 = .ok (.ireturn, 1) := by decide +kernel
noncomputable def b_X9_step_0 (rec : Rk) (x0 x1 x2 : Int) (h : Hp) : Option (Int × Hp) :=
  bd (f_X9_isCell x0 x1 h) fun v1 h2 =>
  if v1 = 0 then (
    some ((-1), h2)
  ) else (
    if 1 ≤ (gI h2 9 x0 0) then (
      ck ((0 : Int) ≤ x1 ∧ (0 : Int) < (gI h2 9 x0 0)) <|
      lt (x1 % (gI h2 9 x0 0)) fun z3 =>
      if x2 = 0 then (
        if x1 < (gI h2 9 x0 0) then (
          some ((-1), h2)
        ) else (
          ck (-2147483648 ≤ x1 - (gI h2 9 x0 0) ∧ x1 - (gI h2 9 x0 0) < 2147483648) <|
          some (x1 - (gI h2 9 x0 0), h2)
        )
      ) else (
      if x2 = 1 then (
        ck (-2147483648 ≤ z3 + 1 ∧ z3 + 1 < 2147483648) <|
        if (gI h2 9 x0 0) ≤ (z3 + 1) then (
          some ((-1), h2)
        ) else (
          ck (-2147483648 ≤ x1 + 1 ∧ x1 + 1 < 2147483648) <|
          some (x1 + 1, h2)
        )
      ) else (
      if x2 = 2 then (
        ck (-2147483648 ≤ x1 + (gI h2 9 x0 0) ∧ x1 + (gI h2 9 x0 0) < 2147483648) <|
        bd (f_X9_isCell x0 (x1 + (gI h2 9 x0 0)) h2) fun v4 h5 =>
        if v4 = 0 then (
          some ((-1), h5)
        ) else (
          ck (-2147483648 ≤ x1 + (gI h5 9 x0 0) ∧ x1 + (gI h5 9 x0 0) < 2147483648) <|
          some (x1 + (gI h5 9 x0 0), h5)
        )
      ) else (
      if x2 = 3 then (
        if z3 ≤ 0 then (
          some ((-1), h2)
        ) else (
          ck (-2147483648 ≤ x1 - 1 ∧ x1 - 1 < 2147483648) <|
          some (x1 - 1, h2)
        )
      ) else (
      some ((-1), h2)
      )
      )
      )
      )
    ) else (
      some ((-1), h2)
    )
  )
noncomputable def g_X9_step (n : Nat) : Rk := Nat.rec (motive := fun _ => Rk) (fun _ _ _ => none) (fun _ rec k l h => if k = 0 then b_X9_step_0 rec (l.getD 0 0) (l.getD 1 0) (l.getD 2 0) h else none) n
noncomputable def f_X9_step (x0 x1 x2 : Int) (h : Hp) : Option (Int × Hp) := g_X9_step FU 0 [x0, x1, x2] h
set_option maxHeartbeats 4000000 in
set_option maxRecDepth 100000 in
theorem t_X9_step_0 (E : xE) (d : Nat) (rec : Rk) (r : Int × Hp) (x0 x1 x2 : Int) (h : Hp) (hL : Lay h) (hF : b_X9_step_0 rec x0 x1 x2 h = some r) : X E mX9_step (d + 2) (0, 0) (0, 0) 0 [some (xr 9 x0), some (xi x1), some (xi x2), none] [] h (PoI r) := by
  unfold b_X9_step_0 at hF
  refine x_aload_n (i := 0) (b := 1) dX9_step_0 rfl rfl rfl ?_
  refine x_iload_n (i := 1) (b := 2) dX9_step_1 rfl rfl rfl ?_
  obtain ⟨v1, h2, hq, hF⟩ := bd_e hF
  refine x_callV (as := [xi x1]) (rest := []) (b := 5) (c_X9_isCell d x0 x1 h _ hL hq) dX9_step_2 cw_X9_53 ⟨_, _, rfl, Nat.le_of_ble_eq_true rfl⟩ rfl rfl (Nat.le_of_ble_eq_true rfl) ⟨Nat.le_refl _, Nat.le_refl _⟩ rfl (fun rv hh hp _ => ?_)
  obtain ⟨rfl, rfl, hL⟩ := hp
  refine x_if_eq (tgt := 16) (b := 8) dX9_step_5 (by decide) rfl (fun hc => ?_) (fun hc => ?_)
  · replace hF := br_T hc hF
    refine x_iconst (n := (-1)) (b := 17) dX9_step_16 (by decide) rfl ?_
    refine x_ireturn dX9_step_17 rfl ⟨Nat.le_refl _, Nat.le_refl _⟩ ?_
    cases hF
    exact ⟨rfl, rfl, hL⟩
  · replace hF := br_F hc hF
    refine x_aload_n (i := 0) (b := 9) dX9_step_8 rfl rfl rfl ?_
    refine x_getI (v := gI h2 9 x0 0) (b := 12) fk_X9_9 dX9_step_9 (by decide) rfl rfl ?_
    refine x_iconst (n := 1) (b := 13) dX9_step_12 (by decide) rfl ?_
    refine x_icmp_ge (tgt := 18) (b := 16) dX9_step_13 (by decide) rfl (fun hc => ?_) (fun hc => ?_)
    · replace hF := br_T hc hF
      refine x_iload_n (i := 1) (b := 19) dX9_step_18 rfl rfl rfl ?_
      refine x_aload_n (i := 0) (b := 20) dX9_step_19 rfl rfl rfl ?_
      refine x_getI (v := gI h2 9 x0 0) (b := 23) fk_X9_9 dX9_step_20 (by decide) rfl rfl ?_
      obtain ⟨hs, hF⟩ := ck_e hF
      refine x_irem (b := 24) dX9_step_23 hs.1 hs.2 rfl ?_
      obtain ⟨z3, e_z3, hF⟩ := lt_e hF
      refine x_eq (y := z3) e_z3 ?_
      refine x_istore_n (i := 3) (b := 25) (ls2 := [some (xr 9 x0), some (xi x1), some (xi x2), some (xi z3)]) dX9_step_24 rfl (Nat.le_of_ble_eq_true rfl) rfl rfl ?_
      refine x_iload_n (i := 2) (b := 26) dX9_step_25 rfl rfl rfl ?_
      by_cases hw26_0 : x2 = 0
      · replace hF := br_T hw26_0 hF
        refine x_tableIn (tgt := 56) dX9_step_26 0 hw26_0 ⟨by decide, by decide⟩ rfl (by decide) ?_
        refine x_iload_n (i := 1) (b := 57) dX9_step_56 rfl rfl rfl ?_
        refine x_aload_n (i := 0) (b := 58) dX9_step_57 rfl rfl rfl ?_
        refine x_getI (v := gI h2 9 x0 0) (b := 61) fk_X9_9 dX9_step_58 (by decide) rfl rfl ?_
        refine x_icmp_lt (tgt := 73) (b := 64) dX9_step_61 (by decide) rfl (fun hc => ?_) (fun hc => ?_)
        · replace hF := br_T hc hF
          refine x_iconst (n := (-1)) (b := 74) dX9_step_73 (by decide) rfl ?_
          refine x_ireturn dX9_step_74 rfl ⟨Nat.le_refl _, Nat.le_refl _⟩ ?_
          cases hF
          exact ⟨rfl, rfl, hL⟩
        · replace hF := br_F hc hF
          refine x_iload_n (i := 1) (b := 65) dX9_step_64 rfl rfl rfl ?_
          refine x_aload_n (i := 0) (b := 66) dX9_step_65 rfl rfl rfl ?_
          refine x_getI (v := gI h2 9 x0 0) (b := 69) fk_X9_9 dX9_step_66 (by decide) rfl rfl ?_
          obtain ⟨hs, hF⟩ := ck_e hF
          refine x_isub (b := 70) dX9_step_69 hs rfl ?_
          refine x_goto (tgt := 74) dX9_step_70 (by decide) ?_
          refine x_ireturn dX9_step_74 rfl ⟨Nat.le_refl _, Nat.le_refl _⟩ ?_
          cases hF
          exact ⟨rfl, rfl, hL⟩
      replace hF := br_F hw26_0 hF
      by_cases hw26_1 : x2 = 1
      · replace hF := br_T hw26_1 hF
        refine x_tableIn (tgt := 75) dX9_step_26 1 hw26_1 ⟨by decide, by decide⟩ rfl (by decide) ?_
        refine x_iload_n (i := 3) (b := 76) dX9_step_75 rfl rfl rfl ?_
        refine x_iconst (n := 1) (b := 77) dX9_step_76 (by decide) rfl ?_
        obtain ⟨hs, hF⟩ := ck_e hF
        refine x_iadd (b := 78) dX9_step_77 hs rfl ?_
        refine x_aload_n (i := 0) (b := 79) dX9_step_78 rfl rfl rfl ?_
        refine x_getI (v := gI h2 9 x0 0) (b := 82) fk_X9_9 dX9_step_79 (by decide) rfl rfl ?_
        refine x_icmp_ge (tgt := 91) (b := 85) dX9_step_82 (by decide) rfl (fun hc => ?_) (fun hc => ?_)
        · replace hF := br_T hc hF
          refine x_iconst (n := (-1)) (b := 92) dX9_step_91 (by decide) rfl ?_
          refine x_ireturn dX9_step_92 rfl ⟨Nat.le_refl _, Nat.le_refl _⟩ ?_
          cases hF
          exact ⟨rfl, rfl, hL⟩
        · replace hF := br_F hc hF
          refine x_iload_n (i := 1) (b := 86) dX9_step_85 rfl rfl rfl ?_
          refine x_iconst (n := 1) (b := 87) dX9_step_86 (by decide) rfl ?_
          obtain ⟨hs, hF⟩ := ck_e hF
          refine x_iadd (b := 88) dX9_step_87 hs rfl ?_
          refine x_goto (tgt := 92) dX9_step_88 (by decide) ?_
          refine x_ireturn dX9_step_92 rfl ⟨Nat.le_refl _, Nat.le_refl _⟩ ?_
          cases hF
          exact ⟨rfl, rfl, hL⟩
      replace hF := br_F hw26_1 hF
      by_cases hw26_2 : x2 = 2
      · replace hF := br_T hw26_2 hF
        refine x_tableIn (tgt := 93) dX9_step_26 2 hw26_2 ⟨by decide, by decide⟩ rfl (by decide) ?_
        refine x_aload_n (i := 0) (b := 94) dX9_step_93 rfl rfl rfl ?_
        refine x_iload_n (i := 1) (b := 95) dX9_step_94 rfl rfl rfl ?_
        refine x_aload_n (i := 0) (b := 96) dX9_step_95 rfl rfl rfl ?_
        refine x_getI (v := gI h2 9 x0 0) (b := 99) fk_X9_9 dX9_step_96 (by decide) rfl rfl ?_
        obtain ⟨hs, hF⟩ := ck_e hF
        refine x_iadd (b := 100) dX9_step_99 hs rfl ?_
        obtain ⟨v4, h5, hq, hF⟩ := bd_e hF
        refine x_callV (as := [xi (x1 + (gI h2 9 x0 0))]) (rest := []) (b := 103) (c_X9_isCell d x0 (x1 + (gI h2 9 x0 0)) h2 _ hL hq) dX9_step_100 cw_X9_53 ⟨_, _, rfl, Nat.le_of_ble_eq_true rfl⟩ rfl rfl (Nat.le_of_ble_eq_true rfl) ⟨Nat.le_refl _, Nat.le_refl _⟩ rfl (fun rv hh hp _ => ?_)
        obtain ⟨rfl, rfl, hL⟩ := hp
        refine x_if_eq (tgt := 115) (b := 106) dX9_step_103 (by decide) rfl (fun hc => ?_) (fun hc => ?_)
        · replace hF := br_T hc hF
          refine x_iconst (n := (-1)) (b := 116) dX9_step_115 (by decide) rfl ?_
          refine x_ireturn dX9_step_116 rfl ⟨Nat.le_refl _, Nat.le_refl _⟩ ?_
          cases hF
          exact ⟨rfl, rfl, hL⟩
        · replace hF := br_F hc hF
          refine x_iload_n (i := 1) (b := 107) dX9_step_106 rfl rfl rfl ?_
          refine x_aload_n (i := 0) (b := 108) dX9_step_107 rfl rfl rfl ?_
          refine x_getI (v := gI h5 9 x0 0) (b := 111) fk_X9_9 dX9_step_108 (by decide) rfl rfl ?_
          obtain ⟨hs, hF⟩ := ck_e hF
          refine x_iadd (b := 112) dX9_step_111 hs rfl ?_
          refine x_goto (tgt := 116) dX9_step_112 (by decide) ?_
          refine x_ireturn dX9_step_116 rfl ⟨Nat.le_refl _, Nat.le_refl _⟩ ?_
          cases hF
          exact ⟨rfl, rfl, hL⟩
      replace hF := br_F hw26_2 hF
      by_cases hw26_3 : x2 = 3
      · replace hF := br_T hw26_3 hF
        refine x_tableIn (tgt := 117) dX9_step_26 3 hw26_3 ⟨by decide, by decide⟩ rfl (by decide) ?_
        refine x_iload_n (i := 3) (b := 118) dX9_step_117 rfl rfl rfl ?_
        refine x_if_le (tgt := 127) (b := 121) dX9_step_118 (by decide) rfl (fun hc => ?_) (fun hc => ?_)
        · replace hF := br_T hc hF
          refine x_iconst (n := (-1)) (b := 128) dX9_step_127 (by decide) rfl ?_
          refine x_ireturn dX9_step_128 rfl ⟨Nat.le_refl _, Nat.le_refl _⟩ ?_
          cases hF
          exact ⟨rfl, rfl, hL⟩
        · replace hF := br_F hc hF
          refine x_iload_n (i := 1) (b := 122) dX9_step_121 rfl rfl rfl ?_
          refine x_iconst (n := 1) (b := 123) dX9_step_122 (by decide) rfl ?_
          obtain ⟨hs, hF⟩ := ck_e hF
          refine x_isub (b := 124) dX9_step_123 hs rfl ?_
          refine x_goto (tgt := 128) dX9_step_124 (by decide) ?_
          refine x_ireturn dX9_step_128 rfl ⟨Nat.le_refl _, Nat.le_refl _⟩ ?_
          cases hF
          exact ⟨rfl, rfl, hL⟩
      replace hF := br_F hw26_3 hF
      refine x_tableOut (tgt := 129) dX9_step_26 (by omega) (by decide) ?_
      refine x_iconst (n := (-1)) (b := 130) dX9_step_129 (by decide) rfl ?_
      refine x_ireturn dX9_step_130 rfl ⟨Nat.le_refl _, Nat.le_refl _⟩ ?_
      cases hF
      exact ⟨rfl, rfl, hL⟩
    · replace hF := br_F hc hF
      refine x_iconst (n := (-1)) (b := 17) dX9_step_16 (by decide) rfl ?_
      refine x_ireturn dX9_step_17 rfl ⟨Nat.le_refl _, Nat.le_refl _⟩ ?_
      cases hF
      exact ⟨rfl, rfl, hL⟩
set_option maxHeartbeats 4000000 in
set_option maxRecDepth 100000 in
theorem u_X9_step (E : xE) (d : Nat) (r : Int × Hp) : ∀ n : Nat, (∀ (x0 x1 x2 : Int) (h : Hp), Lay h → g_X9_step n 0 [x0, x1, x2] h = some r → X E mX9_step (d + 2) (0, 0) (0, 0) 0 [some (xr 9 x0), some (xi x1), some (xi x2), none] [] h (PoI r)) := by
  intro n
  induction n with
  | zero => exact fun _ _ _ _ _ hF => no_e (r := r) hF
  | succ n ih => exact fun x0 x1 x2 h hL hF => t_X9_step_0 E d (g_X9_step n) r  x0 x1 x2 h hL hF
theorem c_X9_step (d : Nat) (x0 x1 x2 : Int) (h : Hp) (r : Int × Hp) (hL : Lay h) (hF : f_X9_step x0 x1 x2 h = some r) : Sp mX9_step (d + 2) (0, 0) [xr 9 x0, xi x1, xi x2] h (PoI r) :=
  sp_of (by decide) rfl (Nat.le_of_ble_eq_true rfl) (ls := [some (xr 9 x0), some (xi x1), some (xi x2), none]) rfl (fun E _ => (u_X9_step E d r FU) x0 x1 x2 h hL hF)
theorem dX12_half_0 : decode cX12_half 0 = .ok (.aload_n 0, 1) := by decide +kernel
theorem dX12_half_1 : decode cX12_half 1 = .ok (.arraylength, 1) := by decide +kernel
theorem dX12_half_2 : decode cX12_half 2 = .ok (.iconst 2, 1) := by decide +kernel
theorem dX12_half_3 : decode cX12_half 3 = .ok (.idiv, 1) := by decide +kernel
theorem dX12_half_4 : decode cX12_half 4 = .ok (.istore_n 1, 1) := by decide +kernel
theorem dX12_half_5 : decode cX12_half 5 = .ok (.iconst 0, 1) := by decide +kernel
theorem dX12_half_6 : decode cX12_half 6 = .ok (.istore_n 2, 1) := by decide +kernel
theorem dX12_half_7 : decode cX12_half 7 = .ok (.iload_n 2, 1) := by decide +kernel
theorem dX12_half_8 : decode cX12_half 8 = .ok (.iload_n 1, 1) := by decide +kernel
theorem dX12_half_9 : decode cX12_half 9 = .ok (.if_icmp .ge 17, 3) := by decide +kernel
theorem dX12_half_12 : decode cX12_half 12 = .ok (.aload_n 0, 1) := by decide +kernel
theorem dX12_half_13 : decode cX12_half 13 = .ok (.iload_n 2, 1) := by decide +kernel
theorem dX12_half_14 : decode cX12_half 14 = .ok (.aload_n 0, 1) := by decide +kernel
theorem dX12_half_15 : decode cX12_half 15 = .ok (.iload_n 1, 1) := by decide +kernel
theorem dX12_half_16 : decode cX12_half 16 = .ok (.iload_n 2, 1) := by decide +kernel
theorem dX12_half_17 : decode cX12_half 17 = .ok (.iadd, 1) := by decide +kernel
theorem dX12_half_18 : decode cX12_half 18 = .ok (.iaload, 1) := by decide +kernel
theorem dX12_half_19 : decode cX12_half 19 = .ok (.iastore, 1) := by decide +kernel
theorem dX12_half_20 : decode cX12_half 20 = .ok (.iinc 2 1, 3) := by decide +kernel
theorem dX12_half_23 : decode cX12_half 23 = .ok (.goto (-16), 3) := by decide +kernel
theorem dX12_half_26 : decode cX12_half 26 = .ok (.return_, 1) := by decide +kernel
noncomputable def b_X12_half_r61_0 (rec : Rk) (h : Hp) : Option (Int × Hp) :=
  ck ((0 : Int) ≤ 30 ∧ (0 : Int) < 2) <|
  lt (30 / 2) fun z1 =>
  rec 1 [z1, 0] h
noncomputable def b_X12_half_r61_1 (rec : Rk) (x1 x2 : Int) (h : Hp) : Option (Int × Hp) :=
  if x1 ≤ x2 then (
    some (0, h)
  ) else (
    ck (-2147483648 ≤ x1 + x2 ∧ x1 + x2 < 2147483648) <|
    ck (0 ≤ (x1 + x2) ∧ (x1 + x2) < 30) <|
    ck (0 ≤ x2 ∧ x2 < 30) <|
    lt (sI h 61 0 x2 (gI h 61 0 (x1 + x2))) fun h1 =>
    ck (-2147483648 ≤ x2 + 1 ∧ x2 + 1 < 2147483648) <|
    rec 1 [x1, x2 + 1] h1
  )
noncomputable def g_X12_half_r61 (n : Nat) : Rk := Nat.rec (motive := fun _ => Rk) (fun _ _ _ => none) (fun _ rec k l h => if k = 0 then b_X12_half_r61_0 rec  h else if k = 1 then b_X12_half_r61_1 rec (l.getD 0 0) (l.getD 1 0) h else none) n
noncomputable def f_X12_half_r61 (h : Hp) : Option (Int × Hp) := g_X12_half_r61 FU 0 [] h
set_option maxHeartbeats 4000000 in
set_option maxRecDepth 100000 in
theorem t_X12_half_r61_0 (E : xE) (d : Nat) (rec : Rk) (r : Int × Hp) (hr_7 : ∀ (x1 x2 : Int) (h : Hp), Lay h → rec 1 [x1, x2] h = some r → X E mX12_half (d + 1) (0, 0) (0, 0) 7 [some (xr 61 0), some (xi x1), some (xi x2)] [] h (PoV r)) (h : Hp) (hL : Lay h) (hF : b_X12_half_r61_0 rec  h = some r) : X E mX12_half (d + 1) (0, 0) (0, 0) 0 [some (xr 61 0), none, none] [] h (PoV r) := by
  unfold b_X12_half_r61_0 at hF
  refine x_aload_n (i := 0) (b := 1) dX12_half_0 rfl rfl rfl ?_
  refine x_alen (kind := 0) (ct := 0) (b := 2) ak_61 (by decide) dX12_half_1 rfl ?_
  refine x_eq (y := 30) rfl ?_
  refine x_iconst (n := 2) (b := 3) dX12_half_2 (by decide) rfl ?_
  obtain ⟨hs, hF⟩ := ck_e hF
  refine x_idiv (b := 4) dX12_half_3 hs.1 hs.2 rfl ?_
  obtain ⟨z1, e_z1, hF⟩ := lt_e hF
  refine x_eq (y := z1) e_z1 ?_
  refine x_istore_n (i := 1) (b := 5) (ls2 := [some (xr 61 0), some (xi z1), none]) dX12_half_4 rfl (Nat.le_of_ble_eq_true rfl) rfl rfl ?_
  refine x_iconst (n := 0) (b := 6) dX12_half_5 (by decide) rfl ?_
  refine x_istore_n (i := 2) (b := 7) (ls2 := [some (xr 61 0), some (xi z1), some (xi 0)]) dX12_half_6 rfl (Nat.le_of_ble_eq_true rfl) rfl rfl ?_
  exact x_dp (ls2 := [some (xr 61 0), some (xi z1), some (xi 0)]) ⟨rfl, rfl, rfl, trivial⟩ (hr_7 z1 0 h hL hF)
set_option maxHeartbeats 4000000 in
set_option maxRecDepth 100000 in
theorem t_X12_half_r61_1 (E : xE) (d : Nat) (rec : Rk) (r : Int × Hp) (hr_7 : ∀ (x1 x2 : Int) (h : Hp), Lay h → rec 1 [x1, x2] h = some r → X E mX12_half (d + 1) (0, 0) (0, 0) 7 [some (xr 61 0), some (xi x1), some (xi x2)] [] h (PoV r)) (x1 x2 : Int) (h : Hp) (hL : Lay h) (hF : b_X12_half_r61_1 rec x1 x2 h = some r) : X E mX12_half (d + 1) (0, 0) (0, 0) 7 [some (xr 61 0), some (xi x1), some (xi x2)] [] h (PoV r) := by
  unfold b_X12_half_r61_1 at hF
  refine x_iload_n (i := 2) (b := 8) dX12_half_7 rfl rfl rfl ?_
  refine x_iload_n (i := 1) (b := 9) dX12_half_8 rfl rfl rfl ?_
  refine x_icmp_ge (tgt := 26) (b := 12) dX12_half_9 (by decide) rfl (fun hc => ?_) (fun hc => ?_)
  · replace hF := br_T hc hF
    refine x_return dX12_half_26 rfl ⟨Nat.le_refl _, Nat.le_refl _⟩ ?_
    cases hF
    exact ⟨rfl, rfl, hL⟩
  · replace hF := br_F hc hF
    refine x_aload_n (i := 0) (b := 13) dX12_half_12 rfl rfl rfl ?_
    refine x_iload_n (i := 2) (b := 14) dX12_half_13 rfl rfl rfl ?_
    refine x_aload_n (i := 0) (b := 15) dX12_half_14 rfl rfl rfl ?_
    refine x_iload_n (i := 1) (b := 16) dX12_half_15 rfl rfl rfl ?_
    refine x_iload_n (i := 2) (b := 17) dX12_half_16 rfl rfl rfl ?_
    obtain ⟨hs, hF⟩ := ck_e hF
    refine x_iadd (b := 18) dX12_half_17 hs rfl ?_
    obtain ⟨hs, hF⟩ := ck_e hF
    refine x_iald (v := gI h 61 0 (x1 + x2)) (b := 19) ak_61 dX12_half_18 hs rfl rfl ?_
    obtain ⟨hs, hF⟩ := ck_e hF
    have hs1 := hs
    refine x_iast (b := 20) ak_61 dX12_half_19 hs1 rfl ?_
    obtain ⟨h1, e_h1, hF⟩ := lt_e hF
    refine x_hp (h2 := h1) e_h1 ?_
    replace hL : Lay h1 := by rw [← e_h1]; exact hL
    obtain ⟨hs, hF⟩ := ck_e hF
    refine x_iinc (i := 2) (b := 23) (ls2 := [some (xr 61 0), some (xi x1), some (xi (x2 + 1))]) dX12_half_20 rfl (Nat.le_of_ble_eq_true rfl) hs rfl rfl ?_
    refine x_goto (tgt := 7) dX12_half_23 (by decide) ?_
    exact x_dp (ls2 := [some (xr 61 0), some (xi x1), some (xi (x2 + 1))]) ⟨rfl, rfl, rfl, trivial⟩ (hr_7 x1 (x2 + 1) h1 hL hF)
set_option maxHeartbeats 4000000 in
set_option maxRecDepth 100000 in
theorem u_X12_half_r61 (E : xE) (d : Nat) (r : Int × Hp) : ∀ n : Nat, (∀ (h : Hp), Lay h → g_X12_half_r61 n 0 [] h = some r → X E mX12_half (d + 1) (0, 0) (0, 0) 0 [some (xr 61 0), none, none] [] h (PoV r)) ∧ (∀ (x1 x2 : Int) (h : Hp), Lay h → g_X12_half_r61 n 1 [x1, x2] h = some r → X E mX12_half (d + 1) (0, 0) (0, 0) 7 [some (xr 61 0), some (xi x1), some (xi x2)] [] h (PoV r)) := by
  intro n
  induction n with
  | zero => exact ⟨fun _ _ hF => no_e (r := r) hF, fun _ _ _ _ hF => no_e (r := r) hF⟩
  | succ n ih => exact ⟨fun h hL hF => t_X12_half_r61_0 E d (g_X12_half_r61 n) r ih.2  h hL hF, fun x1 x2 h hL hF => t_X12_half_r61_1 E d (g_X12_half_r61 n) r ih.2 x1 x2 h hL hF⟩
theorem c_X12_half_r61 (d : Nat) (h : Hp) (r : Int × Hp) (hL : Lay h) (hF : f_X12_half_r61  h = some r) : Sp mX12_half (d + 1) (0, 0) [xr 61 0] h (PoV r) :=
  sp_of (by decide) rfl (Nat.le_of_ble_eq_true rfl) (ls := [some (xr 61 0), none, none]) rfl (fun E _ => (u_X12_half_r61 E d r FU).1  h hL hF)
noncomputable def b_X12_half_r63_0 (rec : Rk) (h : Hp) : Option (Int × Hp) :=
  ck ((0 : Int) ≤ 6 ∧ (0 : Int) < 2) <|
  lt (6 / 2) fun z1 =>
  rec 1 [z1, 0] h
noncomputable def b_X12_half_r63_1 (rec : Rk) (x1 x2 : Int) (h : Hp) : Option (Int × Hp) :=
  if x1 ≤ x2 then (
    some (0, h)
  ) else (
    ck (-2147483648 ≤ x1 + x2 ∧ x1 + x2 < 2147483648) <|
    ck (0 ≤ (x1 + x2) ∧ (x1 + x2) < 6) <|
    ck (0 ≤ x2 ∧ x2 < 6) <|
    lt (sI h 63 0 x2 (gI h 63 0 (x1 + x2))) fun h1 =>
    ck (-2147483648 ≤ x2 + 1 ∧ x2 + 1 < 2147483648) <|
    rec 1 [x1, x2 + 1] h1
  )
noncomputable def g_X12_half_r63 (n : Nat) : Rk := Nat.rec (motive := fun _ => Rk) (fun _ _ _ => none) (fun _ rec k l h => if k = 0 then b_X12_half_r63_0 rec  h else if k = 1 then b_X12_half_r63_1 rec (l.getD 0 0) (l.getD 1 0) h else none) n
noncomputable def f_X12_half_r63 (h : Hp) : Option (Int × Hp) := g_X12_half_r63 FU 0 [] h
set_option maxHeartbeats 4000000 in
set_option maxRecDepth 100000 in
theorem t_X12_half_r63_0 (E : xE) (d : Nat) (rec : Rk) (r : Int × Hp) (hr_7 : ∀ (x1 x2 : Int) (h : Hp), Lay h → rec 1 [x1, x2] h = some r → X E mX12_half (d + 1) (0, 0) (0, 0) 7 [some (xr 63 0), some (xi x1), some (xi x2)] [] h (PoV r)) (h : Hp) (hL : Lay h) (hF : b_X12_half_r63_0 rec  h = some r) : X E mX12_half (d + 1) (0, 0) (0, 0) 0 [some (xr 63 0), none, none] [] h (PoV r) := by
  unfold b_X12_half_r63_0 at hF
  refine x_aload_n (i := 0) (b := 1) dX12_half_0 rfl rfl rfl ?_
  refine x_alen (kind := 0) (ct := 0) (b := 2) ak_63 (by decide) dX12_half_1 rfl ?_
  refine x_eq (y := 6) rfl ?_
  refine x_iconst (n := 2) (b := 3) dX12_half_2 (by decide) rfl ?_
  obtain ⟨hs, hF⟩ := ck_e hF
  refine x_idiv (b := 4) dX12_half_3 hs.1 hs.2 rfl ?_
  obtain ⟨z1, e_z1, hF⟩ := lt_e hF
  refine x_eq (y := z1) e_z1 ?_
  refine x_istore_n (i := 1) (b := 5) (ls2 := [some (xr 63 0), some (xi z1), none]) dX12_half_4 rfl (Nat.le_of_ble_eq_true rfl) rfl rfl ?_
  refine x_iconst (n := 0) (b := 6) dX12_half_5 (by decide) rfl ?_
  refine x_istore_n (i := 2) (b := 7) (ls2 := [some (xr 63 0), some (xi z1), some (xi 0)]) dX12_half_6 rfl (Nat.le_of_ble_eq_true rfl) rfl rfl ?_
  exact x_dp (ls2 := [some (xr 63 0), some (xi z1), some (xi 0)]) ⟨rfl, rfl, rfl, trivial⟩ (hr_7 z1 0 h hL hF)
set_option maxHeartbeats 4000000 in
set_option maxRecDepth 100000 in
theorem t_X12_half_r63_1 (E : xE) (d : Nat) (rec : Rk) (r : Int × Hp) (hr_7 : ∀ (x1 x2 : Int) (h : Hp), Lay h → rec 1 [x1, x2] h = some r → X E mX12_half (d + 1) (0, 0) (0, 0) 7 [some (xr 63 0), some (xi x1), some (xi x2)] [] h (PoV r)) (x1 x2 : Int) (h : Hp) (hL : Lay h) (hF : b_X12_half_r63_1 rec x1 x2 h = some r) : X E mX12_half (d + 1) (0, 0) (0, 0) 7 [some (xr 63 0), some (xi x1), some (xi x2)] [] h (PoV r) := by
  unfold b_X12_half_r63_1 at hF
  refine x_iload_n (i := 2) (b := 8) dX12_half_7 rfl rfl rfl ?_
  refine x_iload_n (i := 1) (b := 9) dX12_half_8 rfl rfl rfl ?_
  refine x_icmp_ge (tgt := 26) (b := 12) dX12_half_9 (by decide) rfl (fun hc => ?_) (fun hc => ?_)
  · replace hF := br_T hc hF
    refine x_return dX12_half_26 rfl ⟨Nat.le_refl _, Nat.le_refl _⟩ ?_
    cases hF
    exact ⟨rfl, rfl, hL⟩
  · replace hF := br_F hc hF
    refine x_aload_n (i := 0) (b := 13) dX12_half_12 rfl rfl rfl ?_
    refine x_iload_n (i := 2) (b := 14) dX12_half_13 rfl rfl rfl ?_
    refine x_aload_n (i := 0) (b := 15) dX12_half_14 rfl rfl rfl ?_
    refine x_iload_n (i := 1) (b := 16) dX12_half_15 rfl rfl rfl ?_
    refine x_iload_n (i := 2) (b := 17) dX12_half_16 rfl rfl rfl ?_
    obtain ⟨hs, hF⟩ := ck_e hF
    refine x_iadd (b := 18) dX12_half_17 hs rfl ?_
    obtain ⟨hs, hF⟩ := ck_e hF
    refine x_iald (v := gI h 63 0 (x1 + x2)) (b := 19) ak_63 dX12_half_18 hs rfl rfl ?_
    obtain ⟨hs, hF⟩ := ck_e hF
    have hs1 := hs
    refine x_iast (b := 20) ak_63 dX12_half_19 hs1 rfl ?_
    obtain ⟨h1, e_h1, hF⟩ := lt_e hF
    refine x_hp (h2 := h1) e_h1 ?_
    replace hL : Lay h1 := by rw [← e_h1]; exact hL
    obtain ⟨hs, hF⟩ := ck_e hF
    refine x_iinc (i := 2) (b := 23) (ls2 := [some (xr 63 0), some (xi x1), some (xi (x2 + 1))]) dX12_half_20 rfl (Nat.le_of_ble_eq_true rfl) hs rfl rfl ?_
    refine x_goto (tgt := 7) dX12_half_23 (by decide) ?_
    exact x_dp (ls2 := [some (xr 63 0), some (xi x1), some (xi (x2 + 1))]) ⟨rfl, rfl, rfl, trivial⟩ (hr_7 x1 (x2 + 1) h1 hL hF)
set_option maxHeartbeats 4000000 in
set_option maxRecDepth 100000 in
theorem u_X12_half_r63 (E : xE) (d : Nat) (r : Int × Hp) : ∀ n : Nat, (∀ (h : Hp), Lay h → g_X12_half_r63 n 0 [] h = some r → X E mX12_half (d + 1) (0, 0) (0, 0) 0 [some (xr 63 0), none, none] [] h (PoV r)) ∧ (∀ (x1 x2 : Int) (h : Hp), Lay h → g_X12_half_r63 n 1 [x1, x2] h = some r → X E mX12_half (d + 1) (0, 0) (0, 0) 7 [some (xr 63 0), some (xi x1), some (xi x2)] [] h (PoV r)) := by
  intro n
  induction n with
  | zero => exact ⟨fun _ _ hF => no_e (r := r) hF, fun _ _ _ _ hF => no_e (r := r) hF⟩
  | succ n ih => exact ⟨fun h hL hF => t_X12_half_r63_0 E d (g_X12_half_r63 n) r ih.2  h hL hF, fun x1 x2 h hL hF => t_X12_half_r63_1 E d (g_X12_half_r63 n) r ih.2 x1 x2 h hL hF⟩
theorem c_X12_half_r63 (d : Nat) (h : Hp) (r : Int × Hp) (hL : Lay h) (hF : f_X12_half_r63  h = some r) : Sp mX12_half (d + 1) (0, 0) [xr 63 0] h (PoV r) :=
  sp_of (by decide) rfl (Nat.le_of_ble_eq_true rfl) (ls := [some (xr 63 0), none, none]) rfl (fun E _ => (u_X12_half_r63 E d r FU).1  h hL hF)
noncomputable def b_X12_half_r64_0 (rec : Rk) (h : Hp) : Option (Int × Hp) :=
  ck ((0 : Int) ≤ 6 ∧ (0 : Int) < 2) <|
  lt (6 / 2) fun z1 =>
  rec 1 [z1, 0] h
noncomputable def b_X12_half_r64_1 (rec : Rk) (x1 x2 : Int) (h : Hp) : Option (Int × Hp) :=
  if x1 ≤ x2 then (
    some (0, h)
  ) else (
    ck (-2147483648 ≤ x1 + x2 ∧ x1 + x2 < 2147483648) <|
    ck (0 ≤ (x1 + x2) ∧ (x1 + x2) < 6) <|
    ck (0 ≤ x2 ∧ x2 < 6) <|
    lt (sI h 64 0 x2 (gI h 64 0 (x1 + x2))) fun h1 =>
    ck (-2147483648 ≤ x2 + 1 ∧ x2 + 1 < 2147483648) <|
    rec 1 [x1, x2 + 1] h1
  )
noncomputable def g_X12_half_r64 (n : Nat) : Rk := Nat.rec (motive := fun _ => Rk) (fun _ _ _ => none) (fun _ rec k l h => if k = 0 then b_X12_half_r64_0 rec  h else if k = 1 then b_X12_half_r64_1 rec (l.getD 0 0) (l.getD 1 0) h else none) n
noncomputable def f_X12_half_r64 (h : Hp) : Option (Int × Hp) := g_X12_half_r64 FU 0 [] h
set_option maxHeartbeats 4000000 in
set_option maxRecDepth 100000 in
theorem t_X12_half_r64_0 (E : xE) (d : Nat) (rec : Rk) (r : Int × Hp) (hr_7 : ∀ (x1 x2 : Int) (h : Hp), Lay h → rec 1 [x1, x2] h = some r → X E mX12_half (d + 1) (0, 0) (0, 0) 7 [some (xr 64 0), some (xi x1), some (xi x2)] [] h (PoV r)) (h : Hp) (hL : Lay h) (hF : b_X12_half_r64_0 rec  h = some r) : X E mX12_half (d + 1) (0, 0) (0, 0) 0 [some (xr 64 0), none, none] [] h (PoV r) := by
  unfold b_X12_half_r64_0 at hF
  refine x_aload_n (i := 0) (b := 1) dX12_half_0 rfl rfl rfl ?_
  refine x_alen (kind := 0) (ct := 0) (b := 2) ak_64 (by decide) dX12_half_1 rfl ?_
  refine x_eq (y := 6) rfl ?_
  refine x_iconst (n := 2) (b := 3) dX12_half_2 (by decide) rfl ?_
  obtain ⟨hs, hF⟩ := ck_e hF
  refine x_idiv (b := 4) dX12_half_3 hs.1 hs.2 rfl ?_
  obtain ⟨z1, e_z1, hF⟩ := lt_e hF
  refine x_eq (y := z1) e_z1 ?_
  refine x_istore_n (i := 1) (b := 5) (ls2 := [some (xr 64 0), some (xi z1), none]) dX12_half_4 rfl (Nat.le_of_ble_eq_true rfl) rfl rfl ?_
  refine x_iconst (n := 0) (b := 6) dX12_half_5 (by decide) rfl ?_
  refine x_istore_n (i := 2) (b := 7) (ls2 := [some (xr 64 0), some (xi z1), some (xi 0)]) dX12_half_6 rfl (Nat.le_of_ble_eq_true rfl) rfl rfl ?_
  exact x_dp (ls2 := [some (xr 64 0), some (xi z1), some (xi 0)]) ⟨rfl, rfl, rfl, trivial⟩ (hr_7 z1 0 h hL hF)
set_option maxHeartbeats 4000000 in
set_option maxRecDepth 100000 in
theorem t_X12_half_r64_1 (E : xE) (d : Nat) (rec : Rk) (r : Int × Hp) (hr_7 : ∀ (x1 x2 : Int) (h : Hp), Lay h → rec 1 [x1, x2] h = some r → X E mX12_half (d + 1) (0, 0) (0, 0) 7 [some (xr 64 0), some (xi x1), some (xi x2)] [] h (PoV r)) (x1 x2 : Int) (h : Hp) (hL : Lay h) (hF : b_X12_half_r64_1 rec x1 x2 h = some r) : X E mX12_half (d + 1) (0, 0) (0, 0) 7 [some (xr 64 0), some (xi x1), some (xi x2)] [] h (PoV r) := by
  unfold b_X12_half_r64_1 at hF
  refine x_iload_n (i := 2) (b := 8) dX12_half_7 rfl rfl rfl ?_
  refine x_iload_n (i := 1) (b := 9) dX12_half_8 rfl rfl rfl ?_
  refine x_icmp_ge (tgt := 26) (b := 12) dX12_half_9 (by decide) rfl (fun hc => ?_) (fun hc => ?_)
  · replace hF := br_T hc hF
    refine x_return dX12_half_26 rfl ⟨Nat.le_refl _, Nat.le_refl _⟩ ?_
    cases hF
    exact ⟨rfl, rfl, hL⟩
  · replace hF := br_F hc hF
    refine x_aload_n (i := 0) (b := 13) dX12_half_12 rfl rfl rfl ?_
    refine x_iload_n (i := 2) (b := 14) dX12_half_13 rfl rfl rfl ?_
    refine x_aload_n (i := 0) (b := 15) dX12_half_14 rfl rfl rfl ?_
    refine x_iload_n (i := 1) (b := 16) dX12_half_15 rfl rfl rfl ?_
    refine x_iload_n (i := 2) (b := 17) dX12_half_16 rfl rfl rfl ?_
    obtain ⟨hs, hF⟩ := ck_e hF
    refine x_iadd (b := 18) dX12_half_17 hs rfl ?_
    obtain ⟨hs, hF⟩ := ck_e hF
    refine x_iald (v := gI h 64 0 (x1 + x2)) (b := 19) ak_64 dX12_half_18 hs rfl rfl ?_
    obtain ⟨hs, hF⟩ := ck_e hF
    have hs1 := hs
    refine x_iast (b := 20) ak_64 dX12_half_19 hs1 rfl ?_
    obtain ⟨h1, e_h1, hF⟩ := lt_e hF
    refine x_hp (h2 := h1) e_h1 ?_
    replace hL : Lay h1 := by rw [← e_h1]; exact hL
    obtain ⟨hs, hF⟩ := ck_e hF
    refine x_iinc (i := 2) (b := 23) (ls2 := [some (xr 64 0), some (xi x1), some (xi (x2 + 1))]) dX12_half_20 rfl (Nat.le_of_ble_eq_true rfl) hs rfl rfl ?_
    refine x_goto (tgt := 7) dX12_half_23 (by decide) ?_
    exact x_dp (ls2 := [some (xr 64 0), some (xi x1), some (xi (x2 + 1))]) ⟨rfl, rfl, rfl, trivial⟩ (hr_7 x1 (x2 + 1) h1 hL hF)
set_option maxHeartbeats 4000000 in
set_option maxRecDepth 100000 in
theorem u_X12_half_r64 (E : xE) (d : Nat) (r : Int × Hp) : ∀ n : Nat, (∀ (h : Hp), Lay h → g_X12_half_r64 n 0 [] h = some r → X E mX12_half (d + 1) (0, 0) (0, 0) 0 [some (xr 64 0), none, none] [] h (PoV r)) ∧ (∀ (x1 x2 : Int) (h : Hp), Lay h → g_X12_half_r64 n 1 [x1, x2] h = some r → X E mX12_half (d + 1) (0, 0) (0, 0) 7 [some (xr 64 0), some (xi x1), some (xi x2)] [] h (PoV r)) := by
  intro n
  induction n with
  | zero => exact ⟨fun _ _ hF => no_e (r := r) hF, fun _ _ _ _ hF => no_e (r := r) hF⟩
  | succ n ih => exact ⟨fun h hL hF => t_X12_half_r64_0 E d (g_X12_half_r64 n) r ih.2  h hL hF, fun x1 x2 h hL hF => t_X12_half_r64_1 E d (g_X12_half_r64 n) r ih.2 x1 x2 h hL hF⟩
theorem c_X12_half_r64 (d : Nat) (h : Hp) (r : Int × Hp) (hL : Lay h) (hF : f_X12_half_r64  h = some r) : Sp mX12_half (d + 1) (0, 0) [xr 64 0] h (PoV r) :=
  sp_of (by decide) rfl (Nat.le_of_ble_eq_true rfl) (ls := [some (xr 64 0), none, none]) rfl (fun E _ => (u_X12_half_r64 E d r FU).1  h hL hF)
noncomputable def b_X12_half_r65_0 (rec : Rk) (h : Hp) : Option (Int × Hp) :=
  ck ((0 : Int) ≤ 6 ∧ (0 : Int) < 2) <|
  lt (6 / 2) fun z1 =>
  rec 1 [z1, 0] h
noncomputable def b_X12_half_r65_1 (rec : Rk) (x1 x2 : Int) (h : Hp) : Option (Int × Hp) :=
  if x1 ≤ x2 then (
    some (0, h)
  ) else (
    ck (-2147483648 ≤ x1 + x2 ∧ x1 + x2 < 2147483648) <|
    ck (0 ≤ (x1 + x2) ∧ (x1 + x2) < 6) <|
    ck (0 ≤ x2 ∧ x2 < 6) <|
    lt (sI h 65 0 x2 (gI h 65 0 (x1 + x2))) fun h1 =>
    ck (-2147483648 ≤ x2 + 1 ∧ x2 + 1 < 2147483648) <|
    rec 1 [x1, x2 + 1] h1
  )
noncomputable def g_X12_half_r65 (n : Nat) : Rk := Nat.rec (motive := fun _ => Rk) (fun _ _ _ => none) (fun _ rec k l h => if k = 0 then b_X12_half_r65_0 rec  h else if k = 1 then b_X12_half_r65_1 rec (l.getD 0 0) (l.getD 1 0) h else none) n
noncomputable def f_X12_half_r65 (h : Hp) : Option (Int × Hp) := g_X12_half_r65 FU 0 [] h
set_option maxHeartbeats 4000000 in
set_option maxRecDepth 100000 in
theorem t_X12_half_r65_0 (E : xE) (d : Nat) (rec : Rk) (r : Int × Hp) (hr_7 : ∀ (x1 x2 : Int) (h : Hp), Lay h → rec 1 [x1, x2] h = some r → X E mX12_half (d + 1) (0, 0) (0, 0) 7 [some (xr 65 0), some (xi x1), some (xi x2)] [] h (PoV r)) (h : Hp) (hL : Lay h) (hF : b_X12_half_r65_0 rec  h = some r) : X E mX12_half (d + 1) (0, 0) (0, 0) 0 [some (xr 65 0), none, none] [] h (PoV r) := by
  unfold b_X12_half_r65_0 at hF
  refine x_aload_n (i := 0) (b := 1) dX12_half_0 rfl rfl rfl ?_
  refine x_alen (kind := 0) (ct := 0) (b := 2) ak_65 (by decide) dX12_half_1 rfl ?_
  refine x_eq (y := 6) rfl ?_
  refine x_iconst (n := 2) (b := 3) dX12_half_2 (by decide) rfl ?_
  obtain ⟨hs, hF⟩ := ck_e hF
  refine x_idiv (b := 4) dX12_half_3 hs.1 hs.2 rfl ?_
  obtain ⟨z1, e_z1, hF⟩ := lt_e hF
  refine x_eq (y := z1) e_z1 ?_
  refine x_istore_n (i := 1) (b := 5) (ls2 := [some (xr 65 0), some (xi z1), none]) dX12_half_4 rfl (Nat.le_of_ble_eq_true rfl) rfl rfl ?_
  refine x_iconst (n := 0) (b := 6) dX12_half_5 (by decide) rfl ?_
  refine x_istore_n (i := 2) (b := 7) (ls2 := [some (xr 65 0), some (xi z1), some (xi 0)]) dX12_half_6 rfl (Nat.le_of_ble_eq_true rfl) rfl rfl ?_
  exact x_dp (ls2 := [some (xr 65 0), some (xi z1), some (xi 0)]) ⟨rfl, rfl, rfl, trivial⟩ (hr_7 z1 0 h hL hF)
set_option maxHeartbeats 4000000 in
set_option maxRecDepth 100000 in
theorem t_X12_half_r65_1 (E : xE) (d : Nat) (rec : Rk) (r : Int × Hp) (hr_7 : ∀ (x1 x2 : Int) (h : Hp), Lay h → rec 1 [x1, x2] h = some r → X E mX12_half (d + 1) (0, 0) (0, 0) 7 [some (xr 65 0), some (xi x1), some (xi x2)] [] h (PoV r)) (x1 x2 : Int) (h : Hp) (hL : Lay h) (hF : b_X12_half_r65_1 rec x1 x2 h = some r) : X E mX12_half (d + 1) (0, 0) (0, 0) 7 [some (xr 65 0), some (xi x1), some (xi x2)] [] h (PoV r) := by
  unfold b_X12_half_r65_1 at hF
  refine x_iload_n (i := 2) (b := 8) dX12_half_7 rfl rfl rfl ?_
  refine x_iload_n (i := 1) (b := 9) dX12_half_8 rfl rfl rfl ?_
  refine x_icmp_ge (tgt := 26) (b := 12) dX12_half_9 (by decide) rfl (fun hc => ?_) (fun hc => ?_)
  · replace hF := br_T hc hF
    refine x_return dX12_half_26 rfl ⟨Nat.le_refl _, Nat.le_refl _⟩ ?_
    cases hF
    exact ⟨rfl, rfl, hL⟩
  · replace hF := br_F hc hF
    refine x_aload_n (i := 0) (b := 13) dX12_half_12 rfl rfl rfl ?_
    refine x_iload_n (i := 2) (b := 14) dX12_half_13 rfl rfl rfl ?_
    refine x_aload_n (i := 0) (b := 15) dX12_half_14 rfl rfl rfl ?_
    refine x_iload_n (i := 1) (b := 16) dX12_half_15 rfl rfl rfl ?_
    refine x_iload_n (i := 2) (b := 17) dX12_half_16 rfl rfl rfl ?_
    obtain ⟨hs, hF⟩ := ck_e hF
    refine x_iadd (b := 18) dX12_half_17 hs rfl ?_
    obtain ⟨hs, hF⟩ := ck_e hF
    refine x_iald (v := gI h 65 0 (x1 + x2)) (b := 19) ak_65 dX12_half_18 hs rfl rfl ?_
    obtain ⟨hs, hF⟩ := ck_e hF
    have hs1 := hs
    refine x_iast (b := 20) ak_65 dX12_half_19 hs1 rfl ?_
    obtain ⟨h1, e_h1, hF⟩ := lt_e hF
    refine x_hp (h2 := h1) e_h1 ?_
    replace hL : Lay h1 := by rw [← e_h1]; exact hL
    obtain ⟨hs, hF⟩ := ck_e hF
    refine x_iinc (i := 2) (b := 23) (ls2 := [some (xr 65 0), some (xi x1), some (xi (x2 + 1))]) dX12_half_20 rfl (Nat.le_of_ble_eq_true rfl) hs rfl rfl ?_
    refine x_goto (tgt := 7) dX12_half_23 (by decide) ?_
    exact x_dp (ls2 := [some (xr 65 0), some (xi x1), some (xi (x2 + 1))]) ⟨rfl, rfl, rfl, trivial⟩ (hr_7 x1 (x2 + 1) h1 hL hF)
set_option maxHeartbeats 4000000 in
set_option maxRecDepth 100000 in
theorem u_X12_half_r65 (E : xE) (d : Nat) (r : Int × Hp) : ∀ n : Nat, (∀ (h : Hp), Lay h → g_X12_half_r65 n 0 [] h = some r → X E mX12_half (d + 1) (0, 0) (0, 0) 0 [some (xr 65 0), none, none] [] h (PoV r)) ∧ (∀ (x1 x2 : Int) (h : Hp), Lay h → g_X12_half_r65 n 1 [x1, x2] h = some r → X E mX12_half (d + 1) (0, 0) (0, 0) 7 [some (xr 65 0), some (xi x1), some (xi x2)] [] h (PoV r)) := by
  intro n
  induction n with
  | zero => exact ⟨fun _ _ hF => no_e (r := r) hF, fun _ _ _ _ hF => no_e (r := r) hF⟩
  | succ n ih => exact ⟨fun h hL hF => t_X12_half_r65_0 E d (g_X12_half_r65 n) r ih.2  h hL hF, fun x1 x2 h hL hF => t_X12_half_r65_1 E d (g_X12_half_r65 n) r ih.2 x1 x2 h hL hF⟩
theorem c_X12_half_r65 (d : Nat) (h : Hp) (r : Int × Hp) (hL : Lay h) (hF : f_X12_half_r65  h = some r) : Sp mX12_half (d + 1) (0, 0) [xr 65 0] h (PoV r) :=
  sp_of (by decide) rfl (Nat.le_of_ble_eq_true rfl) (ls := [some (xr 65 0), none, none]) rfl (fun E _ => (u_X12_half_r65 E d r FU).1  h hL hF)
noncomputable def b_X12_half_r66_0 (rec : Rk) (h : Hp) : Option (Int × Hp) :=
  ck ((0 : Int) ≤ 6 ∧ (0 : Int) < 2) <|
  lt (6 / 2) fun z1 =>
  rec 1 [z1, 0] h
noncomputable def b_X12_half_r66_1 (rec : Rk) (x1 x2 : Int) (h : Hp) : Option (Int × Hp) :=
  if x1 ≤ x2 then (
    some (0, h)
  ) else (
    ck (-2147483648 ≤ x1 + x2 ∧ x1 + x2 < 2147483648) <|
    ck (0 ≤ (x1 + x2) ∧ (x1 + x2) < 6) <|
    ck (0 ≤ x2 ∧ x2 < 6) <|
    lt (sI h 66 0 x2 (gI h 66 0 (x1 + x2))) fun h1 =>
    ck (-2147483648 ≤ x2 + 1 ∧ x2 + 1 < 2147483648) <|
    rec 1 [x1, x2 + 1] h1
  )
noncomputable def g_X12_half_r66 (n : Nat) : Rk := Nat.rec (motive := fun _ => Rk) (fun _ _ _ => none) (fun _ rec k l h => if k = 0 then b_X12_half_r66_0 rec  h else if k = 1 then b_X12_half_r66_1 rec (l.getD 0 0) (l.getD 1 0) h else none) n
noncomputable def f_X12_half_r66 (h : Hp) : Option (Int × Hp) := g_X12_half_r66 FU 0 [] h
set_option maxHeartbeats 4000000 in
set_option maxRecDepth 100000 in
theorem t_X12_half_r66_0 (E : xE) (d : Nat) (rec : Rk) (r : Int × Hp) (hr_7 : ∀ (x1 x2 : Int) (h : Hp), Lay h → rec 1 [x1, x2] h = some r → X E mX12_half (d + 1) (0, 0) (0, 0) 7 [some (xr 66 0), some (xi x1), some (xi x2)] [] h (PoV r)) (h : Hp) (hL : Lay h) (hF : b_X12_half_r66_0 rec  h = some r) : X E mX12_half (d + 1) (0, 0) (0, 0) 0 [some (xr 66 0), none, none] [] h (PoV r) := by
  unfold b_X12_half_r66_0 at hF
  refine x_aload_n (i := 0) (b := 1) dX12_half_0 rfl rfl rfl ?_
  refine x_alen (kind := 0) (ct := 0) (b := 2) ak_66 (by decide) dX12_half_1 rfl ?_
  refine x_eq (y := 6) rfl ?_
  refine x_iconst (n := 2) (b := 3) dX12_half_2 (by decide) rfl ?_
  obtain ⟨hs, hF⟩ := ck_e hF
  refine x_idiv (b := 4) dX12_half_3 hs.1 hs.2 rfl ?_
  obtain ⟨z1, e_z1, hF⟩ := lt_e hF
  refine x_eq (y := z1) e_z1 ?_
  refine x_istore_n (i := 1) (b := 5) (ls2 := [some (xr 66 0), some (xi z1), none]) dX12_half_4 rfl (Nat.le_of_ble_eq_true rfl) rfl rfl ?_
  refine x_iconst (n := 0) (b := 6) dX12_half_5 (by decide) rfl ?_
  refine x_istore_n (i := 2) (b := 7) (ls2 := [some (xr 66 0), some (xi z1), some (xi 0)]) dX12_half_6 rfl (Nat.le_of_ble_eq_true rfl) rfl rfl ?_
  exact x_dp (ls2 := [some (xr 66 0), some (xi z1), some (xi 0)]) ⟨rfl, rfl, rfl, trivial⟩ (hr_7 z1 0 h hL hF)
set_option maxHeartbeats 4000000 in
set_option maxRecDepth 100000 in
theorem t_X12_half_r66_1 (E : xE) (d : Nat) (rec : Rk) (r : Int × Hp) (hr_7 : ∀ (x1 x2 : Int) (h : Hp), Lay h → rec 1 [x1, x2] h = some r → X E mX12_half (d + 1) (0, 0) (0, 0) 7 [some (xr 66 0), some (xi x1), some (xi x2)] [] h (PoV r)) (x1 x2 : Int) (h : Hp) (hL : Lay h) (hF : b_X12_half_r66_1 rec x1 x2 h = some r) : X E mX12_half (d + 1) (0, 0) (0, 0) 7 [some (xr 66 0), some (xi x1), some (xi x2)] [] h (PoV r) := by
  unfold b_X12_half_r66_1 at hF
  refine x_iload_n (i := 2) (b := 8) dX12_half_7 rfl rfl rfl ?_
  refine x_iload_n (i := 1) (b := 9) dX12_half_8 rfl rfl rfl ?_
  refine x_icmp_ge (tgt := 26) (b := 12) dX12_half_9 (by decide) rfl (fun hc => ?_) (fun hc => ?_)
  · replace hF := br_T hc hF
    refine x_return dX12_half_26 rfl ⟨Nat.le_refl _, Nat.le_refl _⟩ ?_
    cases hF
    exact ⟨rfl, rfl, hL⟩
  · replace hF := br_F hc hF
    refine x_aload_n (i := 0) (b := 13) dX12_half_12 rfl rfl rfl ?_
    refine x_iload_n (i := 2) (b := 14) dX12_half_13 rfl rfl rfl ?_
    refine x_aload_n (i := 0) (b := 15) dX12_half_14 rfl rfl rfl ?_
    refine x_iload_n (i := 1) (b := 16) dX12_half_15 rfl rfl rfl ?_
    refine x_iload_n (i := 2) (b := 17) dX12_half_16 rfl rfl rfl ?_
    obtain ⟨hs, hF⟩ := ck_e hF
    refine x_iadd (b := 18) dX12_half_17 hs rfl ?_
    obtain ⟨hs, hF⟩ := ck_e hF
    refine x_iald (v := gI h 66 0 (x1 + x2)) (b := 19) ak_66 dX12_half_18 hs rfl rfl ?_
    obtain ⟨hs, hF⟩ := ck_e hF
    have hs1 := hs
    refine x_iast (b := 20) ak_66 dX12_half_19 hs1 rfl ?_
    obtain ⟨h1, e_h1, hF⟩ := lt_e hF
    refine x_hp (h2 := h1) e_h1 ?_
    replace hL : Lay h1 := by rw [← e_h1]; exact hL
    obtain ⟨hs, hF⟩ := ck_e hF
    refine x_iinc (i := 2) (b := 23) (ls2 := [some (xr 66 0), some (xi x1), some (xi (x2 + 1))]) dX12_half_20 rfl (Nat.le_of_ble_eq_true rfl) hs rfl rfl ?_
    refine x_goto (tgt := 7) dX12_half_23 (by decide) ?_
    exact x_dp (ls2 := [some (xr 66 0), some (xi x1), some (xi (x2 + 1))]) ⟨rfl, rfl, rfl, trivial⟩ (hr_7 x1 (x2 + 1) h1 hL hF)
set_option maxHeartbeats 4000000 in
set_option maxRecDepth 100000 in
theorem u_X12_half_r66 (E : xE) (d : Nat) (r : Int × Hp) : ∀ n : Nat, (∀ (h : Hp), Lay h → g_X12_half_r66 n 0 [] h = some r → X E mX12_half (d + 1) (0, 0) (0, 0) 0 [some (xr 66 0), none, none] [] h (PoV r)) ∧ (∀ (x1 x2 : Int) (h : Hp), Lay h → g_X12_half_r66 n 1 [x1, x2] h = some r → X E mX12_half (d + 1) (0, 0) (0, 0) 7 [some (xr 66 0), some (xi x1), some (xi x2)] [] h (PoV r)) := by
  intro n
  induction n with
  | zero => exact ⟨fun _ _ hF => no_e (r := r) hF, fun _ _ _ _ hF => no_e (r := r) hF⟩
  | succ n ih => exact ⟨fun h hL hF => t_X12_half_r66_0 E d (g_X12_half_r66 n) r ih.2  h hL hF, fun x1 x2 h hL hF => t_X12_half_r66_1 E d (g_X12_half_r66 n) r ih.2 x1 x2 h hL hF⟩
theorem c_X12_half_r66 (d : Nat) (h : Hp) (r : Int × Hp) (hL : Lay h) (hF : f_X12_half_r66  h = some r) : Sp mX12_half (d + 1) (0, 0) [xr 66 0] h (PoV r) :=
  sp_of (by decide) rfl (Nat.le_of_ble_eq_true rfl) (ls := [some (xr 66 0), none, none]) rfl (fun E _ => (u_X12_half_r66 E d r FU).1  h hL hF)
noncomputable def b_X12_half_r67_0 (rec : Rk) (h : Hp) : Option (Int × Hp) :=
  ck ((0 : Int) ≤ 16 ∧ (0 : Int) < 2) <|
  lt (16 / 2) fun z1 =>
  rec 1 [z1, 0] h
noncomputable def b_X12_half_r67_1 (rec : Rk) (x1 x2 : Int) (h : Hp) : Option (Int × Hp) :=
  if x1 ≤ x2 then (
    some (0, h)
  ) else (
    ck (-2147483648 ≤ x1 + x2 ∧ x1 + x2 < 2147483648) <|
    ck (0 ≤ (x1 + x2) ∧ (x1 + x2) < 16) <|
    ck (0 ≤ x2 ∧ x2 < 16) <|
    lt (sI h 67 0 x2 (gI h 67 0 (x1 + x2))) fun h1 =>
    ck (-2147483648 ≤ x2 + 1 ∧ x2 + 1 < 2147483648) <|
    rec 1 [x1, x2 + 1] h1
  )
noncomputable def g_X12_half_r67 (n : Nat) : Rk := Nat.rec (motive := fun _ => Rk) (fun _ _ _ => none) (fun _ rec k l h => if k = 0 then b_X12_half_r67_0 rec  h else if k = 1 then b_X12_half_r67_1 rec (l.getD 0 0) (l.getD 1 0) h else none) n
noncomputable def f_X12_half_r67 (h : Hp) : Option (Int × Hp) := g_X12_half_r67 FU 0 [] h
set_option maxHeartbeats 4000000 in
set_option maxRecDepth 100000 in
theorem t_X12_half_r67_0 (E : xE) (d : Nat) (rec : Rk) (r : Int × Hp) (hr_7 : ∀ (x1 x2 : Int) (h : Hp), Lay h → rec 1 [x1, x2] h = some r → X E mX12_half (d + 1) (0, 0) (0, 0) 7 [some (xr 67 0), some (xi x1), some (xi x2)] [] h (PoV r)) (h : Hp) (hL : Lay h) (hF : b_X12_half_r67_0 rec  h = some r) : X E mX12_half (d + 1) (0, 0) (0, 0) 0 [some (xr 67 0), none, none] [] h (PoV r) := by
  unfold b_X12_half_r67_0 at hF
  refine x_aload_n (i := 0) (b := 1) dX12_half_0 rfl rfl rfl ?_
  refine x_alen (kind := 0) (ct := 0) (b := 2) ak_67 (by decide) dX12_half_1 rfl ?_
  refine x_eq (y := 16) rfl ?_
  refine x_iconst (n := 2) (b := 3) dX12_half_2 (by decide) rfl ?_
  obtain ⟨hs, hF⟩ := ck_e hF
  refine x_idiv (b := 4) dX12_half_3 hs.1 hs.2 rfl ?_
  obtain ⟨z1, e_z1, hF⟩ := lt_e hF
  refine x_eq (y := z1) e_z1 ?_
  refine x_istore_n (i := 1) (b := 5) (ls2 := [some (xr 67 0), some (xi z1), none]) dX12_half_4 rfl (Nat.le_of_ble_eq_true rfl) rfl rfl ?_
  refine x_iconst (n := 0) (b := 6) dX12_half_5 (by decide) rfl ?_
  refine x_istore_n (i := 2) (b := 7) (ls2 := [some (xr 67 0), some (xi z1), some (xi 0)]) dX12_half_6 rfl (Nat.le_of_ble_eq_true rfl) rfl rfl ?_
  exact x_dp (ls2 := [some (xr 67 0), some (xi z1), some (xi 0)]) ⟨rfl, rfl, rfl, trivial⟩ (hr_7 z1 0 h hL hF)
set_option maxHeartbeats 4000000 in
set_option maxRecDepth 100000 in
theorem t_X12_half_r67_1 (E : xE) (d : Nat) (rec : Rk) (r : Int × Hp) (hr_7 : ∀ (x1 x2 : Int) (h : Hp), Lay h → rec 1 [x1, x2] h = some r → X E mX12_half (d + 1) (0, 0) (0, 0) 7 [some (xr 67 0), some (xi x1), some (xi x2)] [] h (PoV r)) (x1 x2 : Int) (h : Hp) (hL : Lay h) (hF : b_X12_half_r67_1 rec x1 x2 h = some r) : X E mX12_half (d + 1) (0, 0) (0, 0) 7 [some (xr 67 0), some (xi x1), some (xi x2)] [] h (PoV r) := by
  unfold b_X12_half_r67_1 at hF
  refine x_iload_n (i := 2) (b := 8) dX12_half_7 rfl rfl rfl ?_
  refine x_iload_n (i := 1) (b := 9) dX12_half_8 rfl rfl rfl ?_
  refine x_icmp_ge (tgt := 26) (b := 12) dX12_half_9 (by decide) rfl (fun hc => ?_) (fun hc => ?_)
  · replace hF := br_T hc hF
    refine x_return dX12_half_26 rfl ⟨Nat.le_refl _, Nat.le_refl _⟩ ?_
    cases hF
    exact ⟨rfl, rfl, hL⟩
  · replace hF := br_F hc hF
    refine x_aload_n (i := 0) (b := 13) dX12_half_12 rfl rfl rfl ?_
    refine x_iload_n (i := 2) (b := 14) dX12_half_13 rfl rfl rfl ?_
    refine x_aload_n (i := 0) (b := 15) dX12_half_14 rfl rfl rfl ?_
    refine x_iload_n (i := 1) (b := 16) dX12_half_15 rfl rfl rfl ?_
    refine x_iload_n (i := 2) (b := 17) dX12_half_16 rfl rfl rfl ?_
    obtain ⟨hs, hF⟩ := ck_e hF
    refine x_iadd (b := 18) dX12_half_17 hs rfl ?_
    obtain ⟨hs, hF⟩ := ck_e hF
    refine x_iald (v := gI h 67 0 (x1 + x2)) (b := 19) ak_67 dX12_half_18 hs rfl rfl ?_
    obtain ⟨hs, hF⟩ := ck_e hF
    have hs1 := hs
    refine x_iast (b := 20) ak_67 dX12_half_19 hs1 rfl ?_
    obtain ⟨h1, e_h1, hF⟩ := lt_e hF
    refine x_hp (h2 := h1) e_h1 ?_
    replace hL : Lay h1 := by rw [← e_h1]; exact hL
    obtain ⟨hs, hF⟩ := ck_e hF
    refine x_iinc (i := 2) (b := 23) (ls2 := [some (xr 67 0), some (xi x1), some (xi (x2 + 1))]) dX12_half_20 rfl (Nat.le_of_ble_eq_true rfl) hs rfl rfl ?_
    refine x_goto (tgt := 7) dX12_half_23 (by decide) ?_
    exact x_dp (ls2 := [some (xr 67 0), some (xi x1), some (xi (x2 + 1))]) ⟨rfl, rfl, rfl, trivial⟩ (hr_7 x1 (x2 + 1) h1 hL hF)
set_option maxHeartbeats 4000000 in
set_option maxRecDepth 100000 in
theorem u_X12_half_r67 (E : xE) (d : Nat) (r : Int × Hp) : ∀ n : Nat, (∀ (h : Hp), Lay h → g_X12_half_r67 n 0 [] h = some r → X E mX12_half (d + 1) (0, 0) (0, 0) 0 [some (xr 67 0), none, none] [] h (PoV r)) ∧ (∀ (x1 x2 : Int) (h : Hp), Lay h → g_X12_half_r67 n 1 [x1, x2] h = some r → X E mX12_half (d + 1) (0, 0) (0, 0) 7 [some (xr 67 0), some (xi x1), some (xi x2)] [] h (PoV r)) := by
  intro n
  induction n with
  | zero => exact ⟨fun _ _ hF => no_e (r := r) hF, fun _ _ _ _ hF => no_e (r := r) hF⟩
  | succ n ih => exact ⟨fun h hL hF => t_X12_half_r67_0 E d (g_X12_half_r67 n) r ih.2  h hL hF, fun x1 x2 h hL hF => t_X12_half_r67_1 E d (g_X12_half_r67 n) r ih.2 x1 x2 h hL hF⟩
theorem c_X12_half_r67 (d : Nat) (h : Hp) (r : Int × Hp) (hL : Lay h) (hF : f_X12_half_r67  h = some r) : Sp mX12_half (d + 1) (0, 0) [xr 67 0] h (PoV r) :=
  sp_of (by decide) rfl (Nat.le_of_ble_eq_true rfl) (ls := [some (xr 67 0), none, none]) rfl (fun E _ => (u_X12_half_r67 E d r FU).1  h hL hF)
noncomputable def b_X12_half_r68_0 (rec : Rk) (h : Hp) : Option (Int × Hp) :=
  ck ((0 : Int) ≤ 8 ∧ (0 : Int) < 2) <|
  lt (8 / 2) fun z1 =>
  rec 1 [z1, 0] h
noncomputable def b_X12_half_r68_1 (rec : Rk) (x1 x2 : Int) (h : Hp) : Option (Int × Hp) :=
  if x1 ≤ x2 then (
    some (0, h)
  ) else (
    ck (-2147483648 ≤ x1 + x2 ∧ x1 + x2 < 2147483648) <|
    ck (0 ≤ (x1 + x2) ∧ (x1 + x2) < 8) <|
    ck (0 ≤ x2 ∧ x2 < 8) <|
    lt (sI h 68 0 x2 (gI h 68 0 (x1 + x2))) fun h1 =>
    ck (-2147483648 ≤ x2 + 1 ∧ x2 + 1 < 2147483648) <|
    rec 1 [x1, x2 + 1] h1
  )
noncomputable def g_X12_half_r68 (n : Nat) : Rk := Nat.rec (motive := fun _ => Rk) (fun _ _ _ => none) (fun _ rec k l h => if k = 0 then b_X12_half_r68_0 rec  h else if k = 1 then b_X12_half_r68_1 rec (l.getD 0 0) (l.getD 1 0) h else none) n
noncomputable def f_X12_half_r68 (h : Hp) : Option (Int × Hp) := g_X12_half_r68 FU 0 [] h
set_option maxHeartbeats 4000000 in
set_option maxRecDepth 100000 in
theorem t_X12_half_r68_0 (E : xE) (d : Nat) (rec : Rk) (r : Int × Hp) (hr_7 : ∀ (x1 x2 : Int) (h : Hp), Lay h → rec 1 [x1, x2] h = some r → X E mX12_half (d + 1) (0, 0) (0, 0) 7 [some (xr 68 0), some (xi x1), some (xi x2)] [] h (PoV r)) (h : Hp) (hL : Lay h) (hF : b_X12_half_r68_0 rec  h = some r) : X E mX12_half (d + 1) (0, 0) (0, 0) 0 [some (xr 68 0), none, none] [] h (PoV r) := by
  unfold b_X12_half_r68_0 at hF
  refine x_aload_n (i := 0) (b := 1) dX12_half_0 rfl rfl rfl ?_
  refine x_alen (kind := 0) (ct := 0) (b := 2) ak_68 (by decide) dX12_half_1 rfl ?_
  refine x_eq (y := 8) rfl ?_
  refine x_iconst (n := 2) (b := 3) dX12_half_2 (by decide) rfl ?_
  obtain ⟨hs, hF⟩ := ck_e hF
  refine x_idiv (b := 4) dX12_half_3 hs.1 hs.2 rfl ?_
  obtain ⟨z1, e_z1, hF⟩ := lt_e hF
  refine x_eq (y := z1) e_z1 ?_
  refine x_istore_n (i := 1) (b := 5) (ls2 := [some (xr 68 0), some (xi z1), none]) dX12_half_4 rfl (Nat.le_of_ble_eq_true rfl) rfl rfl ?_
  refine x_iconst (n := 0) (b := 6) dX12_half_5 (by decide) rfl ?_
  refine x_istore_n (i := 2) (b := 7) (ls2 := [some (xr 68 0), some (xi z1), some (xi 0)]) dX12_half_6 rfl (Nat.le_of_ble_eq_true rfl) rfl rfl ?_
  exact x_dp (ls2 := [some (xr 68 0), some (xi z1), some (xi 0)]) ⟨rfl, rfl, rfl, trivial⟩ (hr_7 z1 0 h hL hF)
set_option maxHeartbeats 4000000 in
set_option maxRecDepth 100000 in
theorem t_X12_half_r68_1 (E : xE) (d : Nat) (rec : Rk) (r : Int × Hp) (hr_7 : ∀ (x1 x2 : Int) (h : Hp), Lay h → rec 1 [x1, x2] h = some r → X E mX12_half (d + 1) (0, 0) (0, 0) 7 [some (xr 68 0), some (xi x1), some (xi x2)] [] h (PoV r)) (x1 x2 : Int) (h : Hp) (hL : Lay h) (hF : b_X12_half_r68_1 rec x1 x2 h = some r) : X E mX12_half (d + 1) (0, 0) (0, 0) 7 [some (xr 68 0), some (xi x1), some (xi x2)] [] h (PoV r) := by
  unfold b_X12_half_r68_1 at hF
  refine x_iload_n (i := 2) (b := 8) dX12_half_7 rfl rfl rfl ?_
  refine x_iload_n (i := 1) (b := 9) dX12_half_8 rfl rfl rfl ?_
  refine x_icmp_ge (tgt := 26) (b := 12) dX12_half_9 (by decide) rfl (fun hc => ?_) (fun hc => ?_)
  · replace hF := br_T hc hF
    refine x_return dX12_half_26 rfl ⟨Nat.le_refl _, Nat.le_refl _⟩ ?_
    cases hF
    exact ⟨rfl, rfl, hL⟩
  · replace hF := br_F hc hF
    refine x_aload_n (i := 0) (b := 13) dX12_half_12 rfl rfl rfl ?_
    refine x_iload_n (i := 2) (b := 14) dX12_half_13 rfl rfl rfl ?_
    refine x_aload_n (i := 0) (b := 15) dX12_half_14 rfl rfl rfl ?_
    refine x_iload_n (i := 1) (b := 16) dX12_half_15 rfl rfl rfl ?_
    refine x_iload_n (i := 2) (b := 17) dX12_half_16 rfl rfl rfl ?_
    obtain ⟨hs, hF⟩ := ck_e hF
    refine x_iadd (b := 18) dX12_half_17 hs rfl ?_
    obtain ⟨hs, hF⟩ := ck_e hF
    refine x_iald (v := gI h 68 0 (x1 + x2)) (b := 19) ak_68 dX12_half_18 hs rfl rfl ?_
    obtain ⟨hs, hF⟩ := ck_e hF
    have hs1 := hs
    refine x_iast (b := 20) ak_68 dX12_half_19 hs1 rfl ?_
    obtain ⟨h1, e_h1, hF⟩ := lt_e hF
    refine x_hp (h2 := h1) e_h1 ?_
    replace hL : Lay h1 := by rw [← e_h1]; exact hL
    obtain ⟨hs, hF⟩ := ck_e hF
    refine x_iinc (i := 2) (b := 23) (ls2 := [some (xr 68 0), some (xi x1), some (xi (x2 + 1))]) dX12_half_20 rfl (Nat.le_of_ble_eq_true rfl) hs rfl rfl ?_
    refine x_goto (tgt := 7) dX12_half_23 (by decide) ?_
    exact x_dp (ls2 := [some (xr 68 0), some (xi x1), some (xi (x2 + 1))]) ⟨rfl, rfl, rfl, trivial⟩ (hr_7 x1 (x2 + 1) h1 hL hF)
set_option maxHeartbeats 4000000 in
set_option maxRecDepth 100000 in
theorem u_X12_half_r68 (E : xE) (d : Nat) (r : Int × Hp) : ∀ n : Nat, (∀ (h : Hp), Lay h → g_X12_half_r68 n 0 [] h = some r → X E mX12_half (d + 1) (0, 0) (0, 0) 0 [some (xr 68 0), none, none] [] h (PoV r)) ∧ (∀ (x1 x2 : Int) (h : Hp), Lay h → g_X12_half_r68 n 1 [x1, x2] h = some r → X E mX12_half (d + 1) (0, 0) (0, 0) 7 [some (xr 68 0), some (xi x1), some (xi x2)] [] h (PoV r)) := by
  intro n
  induction n with
  | zero => exact ⟨fun _ _ hF => no_e (r := r) hF, fun _ _ _ _ hF => no_e (r := r) hF⟩
  | succ n ih => exact ⟨fun h hL hF => t_X12_half_r68_0 E d (g_X12_half_r68 n) r ih.2  h hL hF, fun x1 x2 h hL hF => t_X12_half_r68_1 E d (g_X12_half_r68 n) r ih.2 x1 x2 h hL hF⟩
theorem c_X12_half_r68 (d : Nat) (h : Hp) (r : Int × Hp) (hL : Lay h) (hF : f_X12_half_r68  h = some r) : Sp mX12_half (d + 1) (0, 0) [xr 68 0] h (PoV r) :=
  sp_of (by decide) rfl (Nat.le_of_ble_eq_true rfl) (ls := [some (xr 68 0), none, none]) rfl (fun E _ => (u_X12_half_r68 E d r FU).1  h hL hF)
noncomputable def b_X12_half_r69_0 (rec : Rk) (h : Hp) : Option (Int × Hp) :=
  ck ((0 : Int) ≤ 8 ∧ (0 : Int) < 2) <|
  lt (8 / 2) fun z1 =>
  rec 1 [z1, 0] h
noncomputable def b_X12_half_r69_1 (rec : Rk) (x1 x2 : Int) (h : Hp) : Option (Int × Hp) :=
  if x1 ≤ x2 then (
    some (0, h)
  ) else (
    ck (-2147483648 ≤ x1 + x2 ∧ x1 + x2 < 2147483648) <|
    ck (0 ≤ (x1 + x2) ∧ (x1 + x2) < 8) <|
    ck (0 ≤ x2 ∧ x2 < 8) <|
    lt (sI h 69 0 x2 (gI h 69 0 (x1 + x2))) fun h1 =>
    ck (-2147483648 ≤ x2 + 1 ∧ x2 + 1 < 2147483648) <|
    rec 1 [x1, x2 + 1] h1
  )
noncomputable def g_X12_half_r69 (n : Nat) : Rk := Nat.rec (motive := fun _ => Rk) (fun _ _ _ => none) (fun _ rec k l h => if k = 0 then b_X12_half_r69_0 rec  h else if k = 1 then b_X12_half_r69_1 rec (l.getD 0 0) (l.getD 1 0) h else none) n
noncomputable def f_X12_half_r69 (h : Hp) : Option (Int × Hp) := g_X12_half_r69 FU 0 [] h
set_option maxHeartbeats 4000000 in
set_option maxRecDepth 100000 in
theorem t_X12_half_r69_0 (E : xE) (d : Nat) (rec : Rk) (r : Int × Hp) (hr_7 : ∀ (x1 x2 : Int) (h : Hp), Lay h → rec 1 [x1, x2] h = some r → X E mX12_half (d + 1) (0, 0) (0, 0) 7 [some (xr 69 0), some (xi x1), some (xi x2)] [] h (PoV r)) (h : Hp) (hL : Lay h) (hF : b_X12_half_r69_0 rec  h = some r) : X E mX12_half (d + 1) (0, 0) (0, 0) 0 [some (xr 69 0), none, none] [] h (PoV r) := by
  unfold b_X12_half_r69_0 at hF
  refine x_aload_n (i := 0) (b := 1) dX12_half_0 rfl rfl rfl ?_
  refine x_alen (kind := 0) (ct := 0) (b := 2) ak_69 (by decide) dX12_half_1 rfl ?_
  refine x_eq (y := 8) rfl ?_
  refine x_iconst (n := 2) (b := 3) dX12_half_2 (by decide) rfl ?_
  obtain ⟨hs, hF⟩ := ck_e hF
  refine x_idiv (b := 4) dX12_half_3 hs.1 hs.2 rfl ?_
  obtain ⟨z1, e_z1, hF⟩ := lt_e hF
  refine x_eq (y := z1) e_z1 ?_
  refine x_istore_n (i := 1) (b := 5) (ls2 := [some (xr 69 0), some (xi z1), none]) dX12_half_4 rfl (Nat.le_of_ble_eq_true rfl) rfl rfl ?_
  refine x_iconst (n := 0) (b := 6) dX12_half_5 (by decide) rfl ?_
  refine x_istore_n (i := 2) (b := 7) (ls2 := [some (xr 69 0), some (xi z1), some (xi 0)]) dX12_half_6 rfl (Nat.le_of_ble_eq_true rfl) rfl rfl ?_
  exact x_dp (ls2 := [some (xr 69 0), some (xi z1), some (xi 0)]) ⟨rfl, rfl, rfl, trivial⟩ (hr_7 z1 0 h hL hF)
set_option maxHeartbeats 4000000 in
set_option maxRecDepth 100000 in
theorem t_X12_half_r69_1 (E : xE) (d : Nat) (rec : Rk) (r : Int × Hp) (hr_7 : ∀ (x1 x2 : Int) (h : Hp), Lay h → rec 1 [x1, x2] h = some r → X E mX12_half (d + 1) (0, 0) (0, 0) 7 [some (xr 69 0), some (xi x1), some (xi x2)] [] h (PoV r)) (x1 x2 : Int) (h : Hp) (hL : Lay h) (hF : b_X12_half_r69_1 rec x1 x2 h = some r) : X E mX12_half (d + 1) (0, 0) (0, 0) 7 [some (xr 69 0), some (xi x1), some (xi x2)] [] h (PoV r) := by
  unfold b_X12_half_r69_1 at hF
  refine x_iload_n (i := 2) (b := 8) dX12_half_7 rfl rfl rfl ?_
  refine x_iload_n (i := 1) (b := 9) dX12_half_8 rfl rfl rfl ?_
  refine x_icmp_ge (tgt := 26) (b := 12) dX12_half_9 (by decide) rfl (fun hc => ?_) (fun hc => ?_)
  · replace hF := br_T hc hF
    refine x_return dX12_half_26 rfl ⟨Nat.le_refl _, Nat.le_refl _⟩ ?_
    cases hF
    exact ⟨rfl, rfl, hL⟩
  · replace hF := br_F hc hF
    refine x_aload_n (i := 0) (b := 13) dX12_half_12 rfl rfl rfl ?_
    refine x_iload_n (i := 2) (b := 14) dX12_half_13 rfl rfl rfl ?_
    refine x_aload_n (i := 0) (b := 15) dX12_half_14 rfl rfl rfl ?_
    refine x_iload_n (i := 1) (b := 16) dX12_half_15 rfl rfl rfl ?_
    refine x_iload_n (i := 2) (b := 17) dX12_half_16 rfl rfl rfl ?_
    obtain ⟨hs, hF⟩ := ck_e hF
    refine x_iadd (b := 18) dX12_half_17 hs rfl ?_
    obtain ⟨hs, hF⟩ := ck_e hF
    refine x_iald (v := gI h 69 0 (x1 + x2)) (b := 19) ak_69 dX12_half_18 hs rfl rfl ?_
    obtain ⟨hs, hF⟩ := ck_e hF
    have hs1 := hs
    refine x_iast (b := 20) ak_69 dX12_half_19 hs1 rfl ?_
    obtain ⟨h1, e_h1, hF⟩ := lt_e hF
    refine x_hp (h2 := h1) e_h1 ?_
    replace hL : Lay h1 := by rw [← e_h1]; exact hL
    obtain ⟨hs, hF⟩ := ck_e hF
    refine x_iinc (i := 2) (b := 23) (ls2 := [some (xr 69 0), some (xi x1), some (xi (x2 + 1))]) dX12_half_20 rfl (Nat.le_of_ble_eq_true rfl) hs rfl rfl ?_
    refine x_goto (tgt := 7) dX12_half_23 (by decide) ?_
    exact x_dp (ls2 := [some (xr 69 0), some (xi x1), some (xi (x2 + 1))]) ⟨rfl, rfl, rfl, trivial⟩ (hr_7 x1 (x2 + 1) h1 hL hF)
set_option maxHeartbeats 4000000 in
set_option maxRecDepth 100000 in
theorem u_X12_half_r69 (E : xE) (d : Nat) (r : Int × Hp) : ∀ n : Nat, (∀ (h : Hp), Lay h → g_X12_half_r69 n 0 [] h = some r → X E mX12_half (d + 1) (0, 0) (0, 0) 0 [some (xr 69 0), none, none] [] h (PoV r)) ∧ (∀ (x1 x2 : Int) (h : Hp), Lay h → g_X12_half_r69 n 1 [x1, x2] h = some r → X E mX12_half (d + 1) (0, 0) (0, 0) 7 [some (xr 69 0), some (xi x1), some (xi x2)] [] h (PoV r)) := by
  intro n
  induction n with
  | zero => exact ⟨fun _ _ hF => no_e (r := r) hF, fun _ _ _ _ hF => no_e (r := r) hF⟩
  | succ n ih => exact ⟨fun h hL hF => t_X12_half_r69_0 E d (g_X12_half_r69 n) r ih.2  h hL hF, fun x1 x2 h hL hF => t_X12_half_r69_1 E d (g_X12_half_r69 n) r ih.2 x1 x2 h hL hF⟩
theorem c_X12_half_r69 (d : Nat) (h : Hp) (r : Int × Hp) (hL : Lay h) (hF : f_X12_half_r69  h = some r) : Sp mX12_half (d + 1) (0, 0) [xr 69 0] h (PoV r) :=
  sp_of (by decide) rfl (Nat.le_of_ble_eq_true rfl) (ls := [some (xr 69 0), none, none]) rfl (fun E _ => (u_X12_half_r69 E d r FU).1  h hL hF)
noncomputable def b_X12_half_r70_0 (rec : Rk) (h : Hp) : Option (Int × Hp) :=
  ck ((0 : Int) ≤ 8 ∧ (0 : Int) < 2) <|
  lt (8 / 2) fun z1 =>
  rec 1 [z1, 0] h
noncomputable def b_X12_half_r70_1 (rec : Rk) (x1 x2 : Int) (h : Hp) : Option (Int × Hp) :=
  if x1 ≤ x2 then (
    some (0, h)
  ) else (
    ck (-2147483648 ≤ x1 + x2 ∧ x1 + x2 < 2147483648) <|
    ck (0 ≤ (x1 + x2) ∧ (x1 + x2) < 8) <|
    ck (0 ≤ x2 ∧ x2 < 8) <|
    lt (sI h 70 0 x2 (gI h 70 0 (x1 + x2))) fun h1 =>
    ck (-2147483648 ≤ x2 + 1 ∧ x2 + 1 < 2147483648) <|
    rec 1 [x1, x2 + 1] h1
  )
noncomputable def g_X12_half_r70 (n : Nat) : Rk := Nat.rec (motive := fun _ => Rk) (fun _ _ _ => none) (fun _ rec k l h => if k = 0 then b_X12_half_r70_0 rec  h else if k = 1 then b_X12_half_r70_1 rec (l.getD 0 0) (l.getD 1 0) h else none) n
noncomputable def f_X12_half_r70 (h : Hp) : Option (Int × Hp) := g_X12_half_r70 FU 0 [] h
set_option maxHeartbeats 4000000 in
set_option maxRecDepth 100000 in
theorem t_X12_half_r70_0 (E : xE) (d : Nat) (rec : Rk) (r : Int × Hp) (hr_7 : ∀ (x1 x2 : Int) (h : Hp), Lay h → rec 1 [x1, x2] h = some r → X E mX12_half (d + 1) (0, 0) (0, 0) 7 [some (xr 70 0), some (xi x1), some (xi x2)] [] h (PoV r)) (h : Hp) (hL : Lay h) (hF : b_X12_half_r70_0 rec  h = some r) : X E mX12_half (d + 1) (0, 0) (0, 0) 0 [some (xr 70 0), none, none] [] h (PoV r) := by
  unfold b_X12_half_r70_0 at hF
  refine x_aload_n (i := 0) (b := 1) dX12_half_0 rfl rfl rfl ?_
  refine x_alen (kind := 0) (ct := 0) (b := 2) ak_70 (by decide) dX12_half_1 rfl ?_
  refine x_eq (y := 8) rfl ?_
  refine x_iconst (n := 2) (b := 3) dX12_half_2 (by decide) rfl ?_
  obtain ⟨hs, hF⟩ := ck_e hF
  refine x_idiv (b := 4) dX12_half_3 hs.1 hs.2 rfl ?_
  obtain ⟨z1, e_z1, hF⟩ := lt_e hF
  refine x_eq (y := z1) e_z1 ?_
  refine x_istore_n (i := 1) (b := 5) (ls2 := [some (xr 70 0), some (xi z1), none]) dX12_half_4 rfl (Nat.le_of_ble_eq_true rfl) rfl rfl ?_
  refine x_iconst (n := 0) (b := 6) dX12_half_5 (by decide) rfl ?_
  refine x_istore_n (i := 2) (b := 7) (ls2 := [some (xr 70 0), some (xi z1), some (xi 0)]) dX12_half_6 rfl (Nat.le_of_ble_eq_true rfl) rfl rfl ?_
  exact x_dp (ls2 := [some (xr 70 0), some (xi z1), some (xi 0)]) ⟨rfl, rfl, rfl, trivial⟩ (hr_7 z1 0 h hL hF)
set_option maxHeartbeats 4000000 in
set_option maxRecDepth 100000 in
theorem t_X12_half_r70_1 (E : xE) (d : Nat) (rec : Rk) (r : Int × Hp) (hr_7 : ∀ (x1 x2 : Int) (h : Hp), Lay h → rec 1 [x1, x2] h = some r → X E mX12_half (d + 1) (0, 0) (0, 0) 7 [some (xr 70 0), some (xi x1), some (xi x2)] [] h (PoV r)) (x1 x2 : Int) (h : Hp) (hL : Lay h) (hF : b_X12_half_r70_1 rec x1 x2 h = some r) : X E mX12_half (d + 1) (0, 0) (0, 0) 7 [some (xr 70 0), some (xi x1), some (xi x2)] [] h (PoV r) := by
  unfold b_X12_half_r70_1 at hF
  refine x_iload_n (i := 2) (b := 8) dX12_half_7 rfl rfl rfl ?_
  refine x_iload_n (i := 1) (b := 9) dX12_half_8 rfl rfl rfl ?_
  refine x_icmp_ge (tgt := 26) (b := 12) dX12_half_9 (by decide) rfl (fun hc => ?_) (fun hc => ?_)
  · replace hF := br_T hc hF
    refine x_return dX12_half_26 rfl ⟨Nat.le_refl _, Nat.le_refl _⟩ ?_
    cases hF
    exact ⟨rfl, rfl, hL⟩
  · replace hF := br_F hc hF
    refine x_aload_n (i := 0) (b := 13) dX12_half_12 rfl rfl rfl ?_
    refine x_iload_n (i := 2) (b := 14) dX12_half_13 rfl rfl rfl ?_
    refine x_aload_n (i := 0) (b := 15) dX12_half_14 rfl rfl rfl ?_
    refine x_iload_n (i := 1) (b := 16) dX12_half_15 rfl rfl rfl ?_
    refine x_iload_n (i := 2) (b := 17) dX12_half_16 rfl rfl rfl ?_
    obtain ⟨hs, hF⟩ := ck_e hF
    refine x_iadd (b := 18) dX12_half_17 hs rfl ?_
    obtain ⟨hs, hF⟩ := ck_e hF
    refine x_iald (v := gI h 70 0 (x1 + x2)) (b := 19) ak_70 dX12_half_18 hs rfl rfl ?_
    obtain ⟨hs, hF⟩ := ck_e hF
    have hs1 := hs
    refine x_iast (b := 20) ak_70 dX12_half_19 hs1 rfl ?_
    obtain ⟨h1, e_h1, hF⟩ := lt_e hF
    refine x_hp (h2 := h1) e_h1 ?_
    replace hL : Lay h1 := by rw [← e_h1]; exact hL
    obtain ⟨hs, hF⟩ := ck_e hF
    refine x_iinc (i := 2) (b := 23) (ls2 := [some (xr 70 0), some (xi x1), some (xi (x2 + 1))]) dX12_half_20 rfl (Nat.le_of_ble_eq_true rfl) hs rfl rfl ?_
    refine x_goto (tgt := 7) dX12_half_23 (by decide) ?_
    exact x_dp (ls2 := [some (xr 70 0), some (xi x1), some (xi (x2 + 1))]) ⟨rfl, rfl, rfl, trivial⟩ (hr_7 x1 (x2 + 1) h1 hL hF)
set_option maxHeartbeats 4000000 in
set_option maxRecDepth 100000 in
theorem u_X12_half_r70 (E : xE) (d : Nat) (r : Int × Hp) : ∀ n : Nat, (∀ (h : Hp), Lay h → g_X12_half_r70 n 0 [] h = some r → X E mX12_half (d + 1) (0, 0) (0, 0) 0 [some (xr 70 0), none, none] [] h (PoV r)) ∧ (∀ (x1 x2 : Int) (h : Hp), Lay h → g_X12_half_r70 n 1 [x1, x2] h = some r → X E mX12_half (d + 1) (0, 0) (0, 0) 7 [some (xr 70 0), some (xi x1), some (xi x2)] [] h (PoV r)) := by
  intro n
  induction n with
  | zero => exact ⟨fun _ _ hF => no_e (r := r) hF, fun _ _ _ _ hF => no_e (r := r) hF⟩
  | succ n ih => exact ⟨fun h hL hF => t_X12_half_r70_0 E d (g_X12_half_r70 n) r ih.2  h hL hF, fun x1 x2 h hL hF => t_X12_half_r70_1 E d (g_X12_half_r70 n) r ih.2 x1 x2 h hL hF⟩
theorem c_X12_half_r70 (d : Nat) (h : Hp) (r : Int × Hp) (hL : Lay h) (hF : f_X12_half_r70  h = some r) : Sp mX12_half (d + 1) (0, 0) [xr 70 0] h (PoV r) :=
  sp_of (by decide) rfl (Nat.le_of_ble_eq_true rfl) (ls := [some (xr 70 0), none, none]) rfl (fun E _ => (u_X12_half_r70 E d r FU).1  h hL hF)
