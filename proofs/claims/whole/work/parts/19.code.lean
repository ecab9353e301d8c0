theorem dX2_aboard_0 : decode cX2_aboard 0 = .ok (.iconst 0, 1) := by decide +kernel
theorem dX2_aboard_1 : decode cX2_aboard 1 = .ok (.istore_n 2, 1) := by decide +kernel
theorem dX2_aboard_2 : decode cX2_aboard 2 = .ok (.iconst 0, 1) := by decide +kernel
theorem dX2_aboard_3 : decode cX2_aboard 3 = .ok (.istore_n 3, 1) := by decide +kernel
theorem dX2_aboard_4 : decode cX2_aboard 4 = .ok (.iload_n 3, 1) := by decide +kernel
theorem dX2_aboard_5 : decode cX2_aboard 5 = .ok (.aload_n 0, 1) := by decide +kernel
theorem dX2_aboard_6 : decode cX2_aboard 6 = .ok (.getfield 43, 3) := by decide +kernel
theorem dX2_aboard_9 : decode cX2_aboard 9 = .ok (.invokevirtual 79, 3) := by decide +kernel
theorem dX2_aboard_12 : decode cX2_aboard 12 = .ok (.if_icmp .ge 26, 3) := by decide +kernel
theorem dX2_aboard_15 : decode cX2_aboard 15 = .ok (.iload_n 2, 1) := by decide +kernel
theorem dX2_aboard_16 : decode cX2_aboard 16 = .ok (.aload_n 0, 1) := by decide +kernel
theorem dX2_aboard_17 : decode cX2_aboard 17 = .ok (.aload_n 1, 1) := by decide +kernel
theorem dX2_aboard_18 : decode cX2_aboard 18 = .ok (.iload_n 3, 1) := by decide +kernel
theorem dX2_aboard_19 : decode cX2_aboard 19 = .ok (.invokevirtual 83, 3) := by decide +kernel
theorem dX2_aboard_22 : decode cX2_aboard 22 = .ok (.ifCond .eq 7, 3) := by decide +kernel
theorem dX2_aboard_25 : decode cX2_aboard 25 = .ok (.iconst 1, 1) := by decide +kernel
theorem dX2_aboard_26 : decode cX2_aboard 26 = .ok (.goto 4, 3) := by decide +kernel
theorem dX2_aboard_29 : decode cX2_aboard 29 = .ok (.iconst 0, 1) := by decide +kernel
theorem dX2_aboard_30 : decode cX2_aboard 30 = .ok (.iadd, 1) := by decide +kernel
theorem dX2_aboard_31 : decode cX2_aboard 31 = .ok (.istore_n 2, 1) := by decide +kernel
theorem dX2_aboard_32 : decode cX2_aboard 32 = .ok (.iinc 3 1, 3) := by decide +kernel
theorem dX2_aboard_35 : decode cX2_aboard 35 = .ok (.goto (-31), 3) := by decide +kernel
theorem dX2_aboard_38 : decode cX2_aboard 38 = .ok (.iload_n 2, 1) := by decide +kernel
theorem dX2_aboard_39 : decode cX2_aboard 39 = .ok (.ireturn, 1) := by decide +kernel
noncomputable def b_X2_aboard_0 (rec : Rk) (n : Nat) (x1 : Int) (h : Hp) : Option (Int × Hp) :=
  rec 1 [x1, 0, 0] h
noncomputable def b_X2_aboard_1 (rec : Rk) (n : Nat) (x1 x2 x3 : Int) (h : Hp) : Option (Int × Hp) :=
  rf (gR h 2 0 0) 0 fun j1 =>
  bd (f_X0_size n j1 h) fun v2 h3 =>
  if v2 ≤ x3 then (
    some (x2, h3)
  ) else (
    bd (f_X2_isAboard n x1 x3 h3) fun v4 h5 =>
    if v4 = 0 then (
      rec 2 [x1, x3, 0, x2] h5
    ) else (
      rec 2 [x1, x3, 1, x2] h5
    )
  )
noncomputable def b_X2_aboard_2 (rec : Rk) (n : Nat) (x1 x3 y0 y1 : Int) (h : Hp) : Option (Int × Hp) :=
  ck (-2147483648 ≤ y1 + y0 ∧ y1 + y0 < 2147483648) <|
  lt (y1 + y0) fun z1 =>
  ck (-2147483648 ≤ x3 + 1 ∧ x3 + 1 < 2147483648) <|
  rec 1 [x1, z1, x3 + 1] h
noncomputable def g_X2_aboard (n : Nat) : Rk := Nat.rec (motive := fun _ => Rk) (fun _ _ _ => none) (fun n rec k l h => if k = 0 then b_X2_aboard_0 rec n (l.getD 0 0) h else if k = 1 then b_X2_aboard_1 rec n (l.getD 0 0) (l.getD 1 0) (l.getD 2 0) h else if k = 2 then b_X2_aboard_2 rec n (l.getD 0 0) (l.getD 1 0) (l.getD 2 0) (l.getD 3 0) h else none) n
noncomputable def f_X2_aboard (n : Nat) (x1 : Int) (h : Hp) : Option (Int × Hp) := g_X2_aboard n 0 [x1] h
set_option maxHeartbeats 4000000 in
set_option maxRecDepth 100000 in
theorem t_X2_aboard_0 (E : xE) (d : Nat) (rec : Rk) (n : Nat) (r : Int × Hp) (hr_4 : ∀ (x1 x2 x3 : Int) (h : Hp), Lay h → rec 1 [x1, x2, x3] h = some r → X E mX2_aboard (d + 4) (0, 0) (0, 0) 4 [some (xr 2 0), some (xr 10 x1), some (xi x2), some (xi x3)] [] h (PoI r)) (x1 : Int) (h : Hp) (hL : Lay h) (hF : b_X2_aboard_0 rec n x1 h = some r) : X E mX2_aboard (d + 4) (0, 0) (0, 0) 0 [some (xr 2 0), some (xr 10 x1), none, none] [] h (PoI r) := by
  unfold b_X2_aboard_0 at hF
  refine x_iconst (n := 0) (b := 1) dX2_aboard_0 (by decide) rfl ?_
  refine x_istore_n (i := 2) (b := 2) (ls2 := [some (xr 2 0), some (xr 10 x1), some (xi 0), none]) dX2_aboard_1 rfl (Nat.le_of_ble_eq_true rfl) rfl rfl ?_
  refine x_iconst (n := 0) (b := 3) dX2_aboard_2 (by decide) rfl ?_
  refine x_istore_n (i := 3) (b := 4) (ls2 := [some (xr 2 0), some (xr 10 x1), some (xi 0), some (xi 0)]) dX2_aboard_3 rfl (Nat.le_of_ble_eq_true rfl) rfl rfl ?_
  exact x_dp (ls2 := [some (xr 2 0), some (xr 10 x1), some (xi 0), some (xi 0)]) ⟨rfl, rfl, rfl, rfl, trivial⟩ (hr_4 x1 0 0 h hL hF)
set_option maxHeartbeats 4000000 in
set_option maxRecDepth 100000 in
theorem t_X2_aboard_1 (E : xE) (d : Nat) (rec : Rk) (n : Nat) (r : Int × Hp) (hr_30 : ∀ (x1 x3 y0 y1 : Int) (h : Hp), Lay h → rec 2 [x1, x3, y0, y1] h = some r → X E mX2_aboard (d + 4) (0, 0) (0, 0) 30 [some (xr 2 0), some (xr 10 x1), none, some (xi x3)] [xi y0, xi y1] h (PoI r)) (x1 x2 x3 : Int) (h : Hp) (hL : Lay h) (hF : b_X2_aboard_1 rec n x1 x2 x3 h = some r) : X E mX2_aboard (d + 4) (0, 0) (0, 0) 4 [some (xr 2 0), some (xr 10 x1), some (xi x2), some (xi x3)] [] h (PoI r) := by
  unfold b_X2_aboard_1 at hF
  refine x_iload_n (i := 3) (b := 5) dX2_aboard_4 rfl rfl rfl ?_
  refine x_aload_n (i := 0) (b := 6) dX2_aboard_5 rfl rfl rfl ?_
  obtain ⟨j1, e_j1, hF⟩ := rf_e hF
  refine x_getR (v := some (0, j1)) (b := 9) fk_X2_43 dX2_aboard_6 rfl e_j1 rfl ?_
  obtain ⟨v2, h3, hq, hF⟩ := bd_e hF
  refine x_callV (as := []) (rest := [xi x3]) (b := 12) (c_X0_size (d + 2) n j1 h _ hL hq) dX2_aboard_9 cw_X2_79 ⟨_, _, rfl, Nat.le_of_ble_eq_true rfl⟩ rfl rfl (Nat.le_of_ble_eq_true rfl) ⟨Nat.le_refl _, Nat.le_refl _⟩ rfl (fun rv hh hp _ => ?_)
  obtain ⟨rfl, rfl, hL⟩ := hp
  refine x_icmp_ge (tgt := 38) (b := 15) dX2_aboard_12 (by decide) rfl (fun hc => ?_) (fun hc => ?_)
  · replace hF := br_T hc hF
    refine x_iload_n (i := 2) (b := 39) dX2_aboard_38 rfl rfl rfl ?_
    refine x_ireturn dX2_aboard_39 rfl ⟨Nat.le_refl _, Nat.le_refl _⟩ ?_
    cases hF
    exact ⟨rfl, rfl, hL⟩
  · replace hF := br_F hc hF
    refine x_iload_n (i := 2) (b := 16) dX2_aboard_15 rfl rfl rfl ?_
    refine x_aload_n (i := 0) (b := 17) dX2_aboard_16 rfl rfl rfl ?_
    refine x_aload_n (i := 1) (b := 18) dX2_aboard_17 rfl rfl rfl ?_
    refine x_iload_n (i := 3) (b := 19) dX2_aboard_18 rfl rfl rfl ?_
    obtain ⟨v4, h5, hq, hF⟩ := bd_e hF
    refine x_callV (as := [xr 10 x1, xi x3]) (rest := [xi x2]) (b := 22) (c_X2_isAboard d n x1 x3 h3 _ hL hq) dX2_aboard_19 cw_X2_83 ⟨_, _, rfl, Nat.le_of_ble_eq_true rfl⟩ rfl rfl (Nat.le_of_ble_eq_true rfl) ⟨Nat.le_refl _, Nat.le_refl _⟩ rfl (fun rv hh hp _ => ?_)
    obtain ⟨rfl, rfl, hL⟩ := hp
    refine x_if_eq (tgt := 29) (b := 25) dX2_aboard_22 (by decide) rfl (fun hc => ?_) (fun hc => ?_)
    · replace hF := br_T hc hF
      refine x_iconst (n := 0) (b := 30) dX2_aboard_29 (by decide) rfl ?_
      exact x_dp (ls2 := [some (xr 2 0), some (xr 10 x1), none, some (xi x3)]) ⟨rfl, rfl, rfl, trivial⟩ (hr_30 x1 x3 0 x2 h5 hL hF)
    · replace hF := br_F hc hF
      refine x_iconst (n := 1) (b := 26) dX2_aboard_25 (by decide) rfl ?_
      refine x_goto (tgt := 30) dX2_aboard_26 (by decide) ?_
      exact x_dp (ls2 := [some (xr 2 0), some (xr 10 x1), none, some (xi x3)]) ⟨rfl, rfl, rfl, trivial⟩ (hr_30 x1 x3 1 x2 h5 hL hF)
set_option maxHeartbeats 4000000 in
set_option maxRecDepth 100000 in
theorem t_X2_aboard_2 (E : xE) (d : Nat) (rec : Rk) (n : Nat) (r : Int × Hp) (hr_4 : ∀ (x1 x2 x3 : Int) (h : Hp), Lay h → rec 1 [x1, x2, x3] h = some r → X E mX2_aboard (d + 4) (0, 0) (0, 0) 4 [some (xr 2 0), some (xr 10 x1), some (xi x2), some (xi x3)] [] h (PoI r)) (x1 x3 y0 y1 : Int) (h : Hp) (hL : Lay h) (hF : b_X2_aboard_2 rec n x1 x3 y0 y1 h = some r) : X E mX2_aboard (d + 4) (0, 0) (0, 0) 30 [some (xr 2 0), some (xr 10 x1), none, some (xi x3)] [xi y0, xi y1] h (PoI r) := by
  unfold b_X2_aboard_2 at hF
  obtain ⟨hs, hF⟩ := ck_e hF
  refine x_iadd (b := 31) dX2_aboard_30 hs rfl ?_
  obtain ⟨z1, e_z1, hF⟩ := lt_e hF
  refine x_eq (y := z1) e_z1 ?_
  refine x_istore_n (i := 2) (b := 32) (ls2 := [some (xr 2 0), some (xr 10 x1), some (xi z1), some (xi x3)]) dX2_aboard_31 rfl (Nat.le_of_ble_eq_true rfl) rfl rfl ?_
  obtain ⟨hs, hF⟩ := ck_e hF
  refine x_iinc (i := 3) (b := 35) (ls2 := [some (xr 2 0), some (xr 10 x1), some (xi z1), some (xi (x3 + 1))]) dX2_aboard_32 rfl (Nat.le_of_ble_eq_true rfl) hs rfl rfl ?_
  refine x_goto (tgt := 4) dX2_aboard_35 (by decide) ?_
  exact x_dp (ls2 := [some (xr 2 0), some (xr 10 x1), some (xi z1), some (xi (x3 + 1))]) ⟨rfl, rfl, rfl, rfl, trivial⟩ (hr_4 x1 z1 (x3 + 1) h hL hF)
set_option maxHeartbeats 4000000 in
set_option maxRecDepth 100000 in
theorem u_X2_aboard (E : xE) (d : Nat) (r : Int × Hp) : ∀ n : Nat, (∀ (x1 : Int) (h : Hp), Lay h → g_X2_aboard n 0 [x1] h = some r → X E mX2_aboard (d + 4) (0, 0) (0, 0) 0 [some (xr 2 0), some (xr 10 x1), none, none] [] h (PoI r)) ∧ (∀ (x1 x2 x3 : Int) (h : Hp), Lay h → g_X2_aboard n 1 [x1, x2, x3] h = some r → X E mX2_aboard (d + 4) (0, 0) (0, 0) 4 [some (xr 2 0), some (xr 10 x1), some (xi x2), some (xi x3)] [] h (PoI r)) ∧ (∀ (x1 x3 y0 y1 : Int) (h : Hp), Lay h → g_X2_aboard n 2 [x1, x3, y0, y1] h = some r → X E mX2_aboard (d + 4) (0, 0) (0, 0) 30 [some (xr 2 0), some (xr 10 x1), none, some (xi x3)] [xi y0, xi y1] h (PoI r)) := by
  intro n
  induction n with
  | zero => exact ⟨fun _ _ _ hF => no_e (r := r) hF, fun _ _ _ _ _ hF => no_e (r := r) hF, fun _ _ _ _ _ _ hF => no_e (r := r) hF⟩
  | succ n ih => exact ⟨fun x1 h hL hF => t_X2_aboard_0 E d (g_X2_aboard n) n r ih.2.1 x1 h hL hF, fun x1 x2 x3 h hL hF => t_X2_aboard_1 E d (g_X2_aboard n) n r ih.2.2 x1 x2 x3 h hL hF, fun x1 x3 y0 y1 h hL hF => t_X2_aboard_2 E d (g_X2_aboard n) n r ih.2.1 x1 x3 y0 y1 h hL hF⟩
theorem c_X2_aboard (d n : Nat) (x1 : Int) (h : Hp) (r : Int × Hp) (hL : Lay h) (hF : f_X2_aboard n x1 h = some r) : Sp mX2_aboard (d + 4) (0, 0) [xr 2 0, xr 10 x1] h (PoI r) :=
  sp_of (by decide) rfl (Nat.le_of_ble_eq_true rfl) (ls := [some (xr 2 0), some (xr 10 x1), none, none]) rfl (fun E _ => (u_X2_aboard E d r n).1 x1 h hL hF)
theorem dX2_hungry_0 : decode cX2_hungry 0 = .ok (.iconst 0, 1) := by decide +kernel
theorem dX2_hungry_1 : decode cX2_hungry 1 = .ok (.istore_n 2, 1) := by decide +kernel
theorem dX2_hungry_2 : decode cX2_hungry 2 = .ok (.iconst 0, 1) := by decide +kernel
theorem dX2_hungry_3 : decode cX2_hungry 3 = .ok (.istore_n 3, 1) := by decide +kernel
theorem dX2_hungry_4 : decode cX2_hungry 4 = .ok (.iload_n 3, 1) := by decide +kernel
theorem dX2_hungry_5 : decode cX2_hungry 5 = .ok (.aload_n 0, 1) := by decide +kernel
theorem dX2_hungry_6 : decode cX2_hungry 6 = .ok (.getfield 43, 3) := by decide +kernel
theorem dX2_hungry_9 : decode cX2_hungry 9 = .ok (.getfield 58, 3) := by decide +kernel
theorem dX2_hungry_12 : decode cX2_hungry 12 = .ok (.if_icmp .ge 42, 3) := by decide +kernel
theorem dX2_hungry_15 : decode cX2_hungry 15 = .ok (.iload_n 3, 1) := by decide +kernel
theorem dX2_hungry_16 : decode cX2_hungry 16 = .ok (.iconst 5, 1) := by decide +kernel
theorem dX2_hungry_17 : decode cX2_hungry 17 = .ok (.if_icmp .ge 37, 3) := by decide +kernel
theorem dX2_hungry_20 : decode cX2_hungry 20 = .ok (.iload_n 2, 1) := by decide +kernel
theorem dX2_hungry_21 : decode cX2_hungry 21 = .ok (.aload_n 0, 1) := by decide +kernel
theorem dX2_hungry_22 : decode cX2_hungry 22 = .ok (.aload_n 1, 1) := by decide +kernel
theorem dX2_hungry_23 : decode cX2_hungry 23 = .ok (.iload_n 3, 1) := by decide +kernel
theorem dX2_hungry_24 : decode cX2_hungry 24 = .ok (.invokevirtual 83, 3) := by decide +kernel
theorem dX2_hungry_27 : decode cX2_hungry 27 = .ok (.ifCond .eq 18, 3) := by decide +kernel
theorem dX2_hungry_30 : decode cX2_hungry 30 = .ok (.aload_n 0, 1) := by decide +kernel
theorem dX2_hungry_31 : decode cX2_hungry 31 = .ok (.aload_n 1, 1) := by decide +kernel
theorem dX2_hungry_32 : decode cX2_hungry 32 = .ok (.iload_n 3, 1) := by decide +kernel
theorem dX2_hungry_33 : decode cX2_hungry 33 = .ok (.invokevirtual 95, 3) := by decide +kernel
theorem dX2_hungry_36 : decode cX2_hungry 36 = .ok (.ifCond .le 9, 3) := by decide +kernel
theorem dX2_hungry_39 : decode cX2_hungry 39 = .ok (.iconst 1, 1) := by decide +kernel
theorem dX2_hungry_40 : decode cX2_hungry 40 = .ok (.iload_n 3, 1) := by decide +kernel
theorem dX2_hungry_41 : decode cX2_hungry 41 = .ok (.ishl, 1) := by decide +kernel
theorem dX2_hungry_42 : decode cX2_hungry 42 = .ok (.goto 4, 3) := by decide +kernel
theorem dX2_hungry_45 : decode cX2_hungry 45 = .ok (.iconst 0, 1) := by decide +kernel
theorem dX2_hungry_46 : decode cX2_hungry 46 = .ok (.ior, 1) := by decide +kernel
theorem dX2_hungry_47 : decode cX2_hungry 47 = .ok (.istore_n 2, 1) := by decide +kernel
theorem dX2_hungry_48 : decode cX2_hungry 48 = .ok (.iinc 3 1, 3) := by decide +kernel
theorem dX2_hungry_51 : decode cX2_hungry 51 = .ok (.goto (-47), 3) := by decide +kernel
theorem dX2_hungry_54 : decode cX2_hungry 54 = .ok (.iload_n 2, 1) := by decide +kernel
theorem dX2_hungry_55 : decode cX2_hungry 55 = .ok (.ireturn, 1) := by decide +kernel
noncomputable def b_X2_hungry_0 (rec : Rk) (n : Nat) (x1 : Int) (h : Hp) : Option (Int × Hp) :=
  rec 1 [x1, 0, 0] h
noncomputable def b_X2_hungry_1 (rec : Rk) (n : Nat) (x1 x2 x3 : Int) (h : Hp) : Option (Int × Hp) :=
  rf (gR h 2 0 0) 0 fun j1 =>
  if (gI h 0 j1 3) ≤ x3 then (
    some (x2, h)
  ) else (
    if 5 ≤ x3 then (
      some (x2, h)
    ) else (
      bd (f_X2_isAboard n x1 x3 h) fun v2 h3 =>
      if v2 = 0 then (
        rec 2 [x1, x3, x2] h3
      ) else (
        bd (f_X2_portion n x1 x3 h3) fun v4 h5 =>
        if v4 ≤ 0 then (
          rec 2 [x1, x3, x2] h5
        ) else (
          rec 3 [x1, x3, bshl 1 x3, x2] h5
        )
      )
    )
  )
noncomputable def b_X2_hungry_2 (rec : Rk) (n : Nat) (x1 x3 y0 : Int) (h : Hp) : Option (Int × Hp) :=
  rec 3 [x1, x3, 0, y0] h
noncomputable def b_X2_hungry_3 (rec : Rk) (n : Nat) (x1 x3 y0 y1 : Int) (h : Hp) : Option (Int × Hp) :=
  lt (bor y1 y0) fun z1 =>
  ck (-2147483648 ≤ x3 + 1 ∧ x3 + 1 < 2147483648) <|
  rec 1 [x1, z1, x3 + 1] h
noncomputable def g_X2_hungry (n : Nat) : Rk := Nat.rec (motive := fun _ => Rk) (fun _ _ _ => none) (fun n rec k l h => if k = 0 then b_X2_hungry_0 rec n (l.getD 0 0) h else if k = 1 then b_X2_hungry_1 rec n (l.getD 0 0) (l.getD 1 0) (l.getD 2 0) h else if k = 2 then b_X2_hungry_2 rec n (l.getD 0 0) (l.getD 1 0) (l.getD 2 0) h else if k = 3 then b_X2_hungry_3 rec n (l.getD 0 0) (l.getD 1 0) (l.getD 2 0) (l.getD 3 0) h else none) n
noncomputable def f_X2_hungry (n : Nat) (x1 : Int) (h : Hp) : Option (Int × Hp) := g_X2_hungry n 0 [x1] h
set_option maxHeartbeats 4000000 in
set_option maxRecDepth 100000 in
theorem t_X2_hungry_0 (E : xE) (d : Nat) (rec : Rk) (n : Nat) (r : Int × Hp) (hr_4 : ∀ (x1 x2 x3 : Int) (h : Hp), Lay h → rec 1 [x1, x2, x3] h = some r → X E mX2_hungry (d + 4) (0, 0) (0, 0) 4 [some (xr 2 0), some (xr 10 x1), some (xi x2), some (xi x3)] [] h (PoI r)) (x1 : Int) (h : Hp) (hL : Lay h) (hF : b_X2_hungry_0 rec n x1 h = some r) : X E mX2_hungry (d + 4) (0, 0) (0, 0) 0 [some (xr 2 0), some (xr 10 x1), none, none] [] h (PoI r) := by
  unfold b_X2_hungry_0 at hF
  refine x_iconst (n := 0) (b := 1) dX2_hungry_0 (by decide) rfl ?_
  refine x_istore_n (i := 2) (b := 2) (ls2 := [some (xr 2 0), some (xr 10 x1), some (xi 0), none]) dX2_hungry_1 rfl (Nat.le_of_ble_eq_true rfl) rfl rfl ?_
  refine x_iconst (n := 0) (b := 3) dX2_hungry_2 (by decide) rfl ?_
  refine x_istore_n (i := 3) (b := 4) (ls2 := [some (xr 2 0), some (xr 10 x1), some (xi 0), some (xi 0)]) dX2_hungry_3 rfl (Nat.le_of_ble_eq_true rfl) rfl rfl ?_
  exact x_dp (ls2 := [some (xr 2 0), some (xr 10 x1), some (xi 0), some (xi 0)]) ⟨rfl, rfl, rfl, rfl, trivial⟩ (hr_4 x1 0 0 h hL hF)
set_option maxHeartbeats 4000000 in
set_option maxRecDepth 100000 in
theorem t_X2_hungry_1 (E : xE) (d : Nat) (rec : Rk) (n : Nat) (r : Int × Hp) (hr_45 : ∀ (x1 x3 y0 : Int) (h : Hp), Lay h → rec 2 [x1, x3, y0] h = some r → X E mX2_hungry (d + 4) (0, 0) (0, 0) 45 [some (xr 2 0), some (xr 10 x1), none, some (xi x3)] [xi y0] h (PoI r)) (hr_46 : ∀ (x1 x3 y0 y1 : Int) (h : Hp), Lay h → rec 3 [x1, x3, y0, y1] h = some r → X E mX2_hungry (d + 4) (0, 0) (0, 0) 46 [some (xr 2 0), some (xr 10 x1), none, some (xi x3)] [xi y0, xi y1] h (PoI r)) (x1 x2 x3 : Int) (h : Hp) (hL : Lay h) (hF : b_X2_hungry_1 rec n x1 x2 x3 h = some r) : X E mX2_hungry (d + 4) (0, 0) (0, 0) 4 [some (xr 2 0), some (xr 10 x1), some (xi x2), some (xi x3)] [] h (PoI r) := by
  unfold b_X2_hungry_1 at hF
  refine x_iload_n (i := 3) (b := 5) dX2_hungry_4 rfl rfl rfl ?_
  refine x_aload_n (i := 0) (b := 6) dX2_hungry_5 rfl rfl rfl ?_
  obtain ⟨j1, e_j1, hF⟩ := rf_e hF
  refine x_getR (v := some (0, j1)) (b := 9) fk_X2_43 dX2_hungry_6 rfl e_j1 rfl ?_
  refine x_getI (v := gI h 0 j1 3) (b := 12) fk_X2_58 dX2_hungry_9 (by decide) rfl rfl ?_
  refine x_icmp_ge (tgt := 54) (b := 15) dX2_hungry_12 (by decide) rfl (fun hc => ?_) (fun hc => ?_)
  · replace hF := br_T hc hF
    refine x_iload_n (i := 2) (b := 55) dX2_hungry_54 rfl rfl rfl ?_
    refine x_ireturn dX2_hungry_55 rfl ⟨Nat.le_refl _, Nat.le_refl _⟩ ?_
    cases hF
    exact ⟨rfl, rfl, hL⟩
  · replace hF := br_F hc hF
    refine x_iload_n (i := 3) (b := 16) dX2_hungry_15 rfl rfl rfl ?_
    refine x_iconst (n := 5) (b := 17) dX2_hungry_16 (by decide) rfl ?_
    refine x_icmp_ge (tgt := 54) (b := 20) dX2_hungry_17 (by decide) rfl (fun hc => ?_) (fun hc => ?_)
    · replace hF := br_T hc hF
      refine x_iload_n (i := 2) (b := 55) dX2_hungry_54 rfl rfl rfl ?_
      refine x_ireturn dX2_hungry_55 rfl ⟨Nat.le_refl _, Nat.le_refl _⟩ ?_
      cases hF
      exact ⟨rfl, rfl, hL⟩
    · replace hF := br_F hc hF
      refine x_iload_n (i := 2) (b := 21) dX2_hungry_20 rfl rfl rfl ?_
      refine x_aload_n (i := 0) (b := 22) dX2_hungry_21 rfl rfl rfl ?_
      refine x_aload_n (i := 1) (b := 23) dX2_hungry_22 rfl rfl rfl ?_
      refine x_iload_n (i := 3) (b := 24) dX2_hungry_23 rfl rfl rfl ?_
      obtain ⟨v2, h3, hq, hF⟩ := bd_e hF
      refine x_callV (as := [xr 10 x1, xi x3]) (rest := [xi x2]) (b := 27) (c_X2_isAboard d n x1 x3 h _ hL hq) dX2_hungry_24 cw_X2_83 ⟨_, _, rfl, Nat.le_of_ble_eq_true rfl⟩ rfl rfl (Nat.le_of_ble_eq_true rfl) ⟨Nat.le_refl _, Nat.le_refl _⟩ rfl (fun rv hh hp _ => ?_)
      obtain ⟨rfl, rfl, hL⟩ := hp
      refine x_if_eq (tgt := 45) (b := 30) dX2_hungry_27 (by decide) rfl (fun hc => ?_) (fun hc => ?_)
      · replace hF := br_T hc hF
        exact x_dp (ls2 := [some (xr 2 0), some (xr 10 x1), none, some (xi x3)]) ⟨rfl, rfl, rfl, trivial⟩ (hr_45 x1 x3 x2 h3 hL hF)
      · replace hF := br_F hc hF
        refine x_aload_n (i := 0) (b := 31) dX2_hungry_30 rfl rfl rfl ?_
        refine x_aload_n (i := 1) (b := 32) dX2_hungry_31 rfl rfl rfl ?_
        refine x_iload_n (i := 3) (b := 33) dX2_hungry_32 rfl rfl rfl ?_
        obtain ⟨v4, h5, hq, hF⟩ := bd_e hF
        refine x_callV (as := [xr 10 x1, xi x3]) (rest := [xi x2]) (b := 36) (c_X2_portion d n x1 x3 h3 _ hL hq) dX2_hungry_33 cw_X2_95 ⟨_, _, rfl, Nat.le_of_ble_eq_true rfl⟩ rfl rfl (Nat.le_of_ble_eq_true rfl) ⟨Nat.le_refl _, Nat.le_refl _⟩ rfl (fun rv hh hp _ => ?_)
        obtain ⟨rfl, rfl, hL⟩ := hp
        refine x_if_le (tgt := 45) (b := 39) dX2_hungry_36 (by decide) rfl (fun hc => ?_) (fun hc => ?_)
        · replace hF := br_T hc hF
          exact x_dp (ls2 := [some (xr 2 0), some (xr 10 x1), none, some (xi x3)]) ⟨rfl, rfl, rfl, trivial⟩ (hr_45 x1 x3 x2 h5 hL hF)
        · replace hF := br_F hc hF
          refine x_iconst (n := 1) (b := 40) dX2_hungry_39 (by decide) rfl ?_
          refine x_iload_n (i := 3) (b := 41) dX2_hungry_40 rfl rfl rfl ?_
          refine x_ishl (b := 42) dX2_hungry_41 rfl ?_
          refine x_goto (tgt := 46) dX2_hungry_42 (by decide) ?_
          exact x_dp (ls2 := [some (xr 2 0), some (xr 10 x1), none, some (xi x3)]) ⟨rfl, rfl, rfl, trivial⟩ (hr_46 x1 x3 (bshl 1 x3) x2 h5 hL hF)
set_option maxHeartbeats 4000000 in
set_option maxRecDepth 100000 in
theorem t_X2_hungry_2 (E : xE) (d : Nat) (rec : Rk) (n : Nat) (r : Int × Hp) (hr_46 : ∀ (x1 x3 y0 y1 : Int) (h : Hp), Lay h → rec 3 [x1, x3, y0, y1] h = some r → X E mX2_hungry (d + 4) (0, 0) (0, 0) 46 [some (xr 2 0), some (xr 10 x1), none, some (xi x3)] [xi y0, xi y1] h (PoI r)) (x1 x3 y0 : Int) (h : Hp) (hL : Lay h) (hF : b_X2_hungry_2 rec n x1 x3 y0 h = some r) : X E mX2_hungry (d + 4) (0, 0) (0, 0) 45 [some (xr 2 0), some (xr 10 x1), none, some (xi x3)] [xi y0] h (PoI r) := by
  unfold b_X2_hungry_2 at hF
  refine x_iconst (n := 0) (b := 46) dX2_hungry_45 (by decide) rfl ?_
  exact x_dp (ls2 := [some (xr 2 0), some (xr 10 x1), none, some (xi x3)]) ⟨rfl, rfl, rfl, trivial⟩ (hr_46 x1 x3 0 y0 h hL hF)
set_option maxHeartbeats 4000000 in
set_option maxRecDepth 100000 in
theorem t_X2_hungry_3 (E : xE) (d : Nat) (rec : Rk) (n : Nat) (r : Int × Hp) (hr_4 : ∀ (x1 x2 x3 : Int) (h : Hp), Lay h → rec 1 [x1, x2, x3] h = some r → X E mX2_hungry (d + 4) (0, 0) (0, 0) 4 [some (xr 2 0), some (xr 10 x1), some (xi x2), some (xi x3)] [] h (PoI r)) (x1 x3 y0 y1 : Int) (h : Hp) (hL : Lay h) (hF : b_X2_hungry_3 rec n x1 x3 y0 y1 h = some r) : X E mX2_hungry (d + 4) (0, 0) (0, 0) 46 [some (xr 2 0), some (xr 10 x1), none, some (xi x3)] [xi y0, xi y1] h (PoI r) := by
  unfold b_X2_hungry_3 at hF
  refine x_ior (b := 47) dX2_hungry_46 rfl ?_
  obtain ⟨z1, e_z1, hF⟩ := lt_e hF
  refine x_eq (y := z1) e_z1 ?_
  refine x_istore_n (i := 2) (b := 48) (ls2 := [some (xr 2 0), some (xr 10 x1), some (xi z1), some (xi x3)]) dX2_hungry_47 rfl (Nat.le_of_ble_eq_true rfl) rfl rfl ?_
  obtain ⟨hs, hF⟩ := ck_e hF
  refine x_iinc (i := 3) (b := 51) (ls2 := [some (xr 2 0), some (xr 10 x1), some (xi z1), some (xi (x3 + 1))]) dX2_hungry_48 rfl (Nat.le_of_ble_eq_true rfl) hs rfl rfl ?_
  refine x_goto (tgt := 4) dX2_hungry_51 (by decide) ?_
  exact x_dp (ls2 := [some (xr 2 0), some (xr 10 x1), some (xi z1), some (xi (x3 + 1))]) ⟨rfl, rfl, rfl, rfl, trivial⟩ (hr_4 x1 z1 (x3 + 1) h hL hF)
set_option maxHeartbeats 4000000 in
set_option maxRecDepth 100000 in
theorem u_X2_hungry (E : xE) (d : Nat) (r : Int × Hp) : ∀ n : Nat, (∀ (x1 : Int) (h : Hp), Lay h → g_X2_hungry n 0 [x1] h = some r → X E mX2_hungry (d + 4) (0, 0) (0, 0) 0 [some (xr 2 0), some (xr 10 x1), none, none] [] h (PoI r)) ∧ (∀ (x1 x2 x3 : Int) (h : Hp), Lay h → g_X2_hungry n 1 [x1, x2, x3] h = some r → X E mX2_hungry (d + 4) (0, 0) (0, 0) 4 [some (xr 2 0), some (xr 10 x1), some (xi x2), some (xi x3)] [] h (PoI r)) ∧ (∀ (x1 x3 y0 : Int) (h : Hp), Lay h → g_X2_hungry n 2 [x1, x3, y0] h = some r → X E mX2_hungry (d + 4) (0, 0) (0, 0) 45 [some (xr 2 0), some (xr 10 x1), none, some (xi x3)] [xi y0] h (PoI r)) ∧ (∀ (x1 x3 y0 y1 : Int) (h : Hp), Lay h → g_X2_hungry n 3 [x1, x3, y0, y1] h = some r → X E mX2_hungry (d + 4) (0, 0) (0, 0) 46 [some (xr 2 0), some (xr 10 x1), none, some (xi x3)] [xi y0, xi y1] h (PoI r)) := by
  intro n
  induction n with
  | zero => exact ⟨fun _ _ _ hF => no_e (r := r) hF, fun _ _ _ _ _ hF => no_e (r := r) hF, fun _ _ _ _ _ hF => no_e (r := r) hF, fun _ _ _ _ _ _ hF => no_e (r := r) hF⟩
  | succ n ih => exact ⟨fun x1 h hL hF => t_X2_hungry_0 E d (g_X2_hungry n) n r ih.2.1 x1 h hL hF, fun x1 x2 x3 h hL hF => t_X2_hungry_1 E d (g_X2_hungry n) n r ih.2.2.1 ih.2.2.2 x1 x2 x3 h hL hF, fun x1 x3 y0 h hL hF => t_X2_hungry_2 E d (g_X2_hungry n) n r ih.2.2.2 x1 x3 y0 h hL hF, fun x1 x3 y0 y1 h hL hF => t_X2_hungry_3 E d (g_X2_hungry n) n r ih.2.1 x1 x3 y0 y1 h hL hF⟩
theorem c_X2_hungry (d n : Nat) (x1 : Int) (h : Hp) (r : Int × Hp) (hL : Lay h) (hF : f_X2_hungry n x1 h = some r) : Sp mX2_hungry (d + 4) (0, 0) [xr 2 0, xr 10 x1] h (PoI r) :=
  sp_of (by decide) rfl (Nat.le_of_ble_eq_true rfl) (ls := [some (xr 2 0), some (xr 10 x1), none, none]) rfl (fun E _ => (u_X2_hungry E d r n).1 x1 h hL hF)
theorem dX2_poll_0 : decode cX2_poll 0 = .ok (.iconst 0, 1) := by decide +kernel
theorem dX2_poll_1 : decode cX2_poll 1 = .ok (.istore_n 2, 1) := by decide +kernel
theorem dX2_poll_2 : decode cX2_poll 2 = .ok (.iload_n 2, 1) := by decide +kernel
theorem dX2_poll_3 : decode cX2_poll 3 = .ok (.iconst 4, 1) := by decide +kernel
theorem dX2_poll_4 : decode cX2_poll 4 = .ok (.if_icmp .ge 16, 3) := by decide +kernel
theorem dX2_poll_7 : decode cX2_poll 7 = .ok (.aload_n 0, 1) := by decide +kernel
theorem dX2_poll_8 : decode cX2_poll 8 = .ok (.getfield 25, 3) := by decide +kernel
theorem dX2_poll_11 : decode cX2_poll 11 = .ok (.iload_n 2, 1) := by decide +kernel
theorem dX2_poll_12 : decode cX2_poll 12 = .ok (.iconst 0, 1) := by decide +kernel
theorem dX2_poll_13 : decode cX2_poll 13 = .ok (.iastore, 1) := by decide +kernel
theorem dX2_poll_14 : decode cX2_poll 14 = .ok (.iinc 2 1, 3) := by decide +kernel
theorem dX2_poll_17 : decode cX2_poll 17 = .ok (.goto (-15), 3) := by decide +kernel
theorem dX2_poll_20 : decode cX2_poll 20 = .ok (.iconst 0, 1) := by decide +kernel
theorem dX2_poll_21 : decode cX2_poll 21 = .ok (.istore_n 2, 1) := by decide +kernel
theorem dX2_poll_22 : decode cX2_poll 22 = .ok (.iload_n 2, 1) := by decide +kernel
theorem dX2_poll_23 : decode cX2_poll 23 = .ok (.aload_n 0, 1) := by decide +kernel
theorem dX2_poll_24 : decode cX2_poll 24 = .ok (.getfield 43, 3) := by decide +kernel
theorem dX2_poll_27 : decode cX2_poll 27 = .ok (.invokevirtual 79, 3) := by decide +kernel
theorem dX2_poll_30 : decode cX2_poll 30 = .ok (.if_icmp .ge 56, 3) := by decide +kernel
theorem dX2_poll_33 : decode cX2_poll 33 = .ok (.aload_n 0, 1) := by decide +kernel
theorem dX2_poll_34 : decode cX2_poll 34 = .ok (.getfield 22, 3) := by decide +kernel
theorem dX2_poll_37 : decode cX2_poll 37 = .ok (.iload_n 2, 1) := by decide +kernel
theorem dX2_poll_38 : decode cX2_poll 38 = .ok (.aload_n 0, 1) := by decide +kernel
theorem dX2_poll_39 : decode cX2_poll 39 = .ok (.getfield 18, 3) := by decide +kernel
theorem dX2_poll_42 : decode cX2_poll 42 = .ok (.iload_n 2, 1) := by decide +kernel
theorem dX2_poll_43 : decode cX2_poll 43 = .ok (.iaload, 1) := by decide +kernel
theorem dX2_poll_44 : decode cX2_poll 44 = .ok (.ifCond .le 18, 3) := by decide +kernel
theorem dX2_poll_47 : decode cX2_poll 47 = .ok (.aload_n 0, 1) := by decide +kernel
theorem dX2_poll_48 : decode cX2_poll 48 = .ok (.aload_n 1, 1) := by decide +kernel
theorem dX2_poll_49 : decode cX2_poll 49 = .ok (.iload_n 2, 1) := by decide +kernel
theorem dX2_poll_50 : decode cX2_poll 50 = .ok (.aload_n 0, 1) := by decide +kernel
theorem dX2_poll_51 : decode cX2_poll 51 = .ok (.getfield 18, 3) := by decide +kernel
theorem dX2_poll_54 : decode cX2_poll 54 = .ok (.iload_n 2, 1) := by decide +kernel
theorem dX2_poll_55 : decode cX2_poll 55 = .ok (.iaload, 1) := by decide +kernel
theorem dX2_poll_56 : decode cX2_poll 56 = .ok (.invokevirtual 170, 3) := by decide +kernel
theorem dX2_poll_59 : decode cX2_poll 59 = .ok (.goto 4, 3) := by decide +kernel
theorem dX2_poll_62 : decode cX2_poll 62 = .ok (.iconst (-1), 1) := by decide +kernel
theorem dX2_poll_63 : decode cX2_poll 63 = .ok (.iastore, 1) := by decide +kernel
theorem dX2_poll_64 : decode cX2_poll 64 = .ok (.aload_n 0, 1) := by decide +kernel
theorem dX2_poll_65 : decode cX2_poll 65 = .ok (.aload_n 0, 1) := by decide +kernel
theorem dX2_poll_66 : decode cX2_poll 66 = .ok (.getfield 22, 3) := by decide +kernel
theorem dX2_poll_69 : decode cX2_poll 69 = .ok (.iload_n 2, 1) := by decide +kernel
theorem dX2_poll_70 : decode cX2_poll 70 = .ok (.iaload, 1) := by decide +kernel
theorem dX2_poll_71 : decode cX2_poll 71 = .ok (.aload_n 0, 1) := by decide +kernel
theorem dX2_poll_72 : decode cX2_poll 72 = .ok (.getfield 18, 3) := by decide +kernel
theorem dX2_poll_75 : decode cX2_poll 75 = .ok (.iload_n 2, 1) := by decide +kernel
theorem dX2_poll_76 : decode cX2_poll 76 = .ok (.iaload, 1) := by decide +kernel
theorem dX2_poll_77 : decode cX2_poll 77 = .ok (.invokevirtual 174, 3) := by decide +kernel
theorem dX2_poll_80 : decode cX2_poll 80 = .ok (.iinc 2 1, 3) := by decide +kernel
theorem dX2_poll_83 : decode cX2_poll 83 = .ok (.goto (-61), 3) := by decide +kernel
theorem dX2_poll_86 : decode cX2_poll 86 = .ok (.aload_n 0, 1) := by decide +kernel
theorem dX2_poll_87 : decode cX2_poll 87 = .ok (.getfield 43, 3) := by decide +kernel
theorem dX2_poll_90 : decode cX2_poll 90 = .ok (.getfield 124, 3) := by decide +kernel
theorem dX2_poll_93 : decode cX2_poll 93 = .ok (.astore_n 2, 1) := by decide +kernel
theorem dX2_poll_94 : decode cX2_poll 94 = .ok (.iconst 0, 1) := by decide +kernel
theorem dX2_poll_95 : decode cX2_poll 95 = .ok (.istore_n 3, 1) := by decide +kernel
theorem dX2_poll_96 : decode cX2_poll 96 = .ok (.aload_n 0, 1) := by decide +kernel
theorem dX2_poll_97 : decode cX2_poll 97 = .ok (.getfield 9, 3) := by decide +kernel
theorem dX2_poll_100 : decode cX2_poll 100 = .ok (.iconst 1, 1) := by decide +kernel
theorem dX2_poll_101 : decode cX2_poll 101 = .ok (.if_icmp .eq 56, 3) := by decide +kernel
theorem dX2_poll_104 : decode cX2_poll 104 = .ok (.iload_n 3, 1) := by decide +kernel
theorem dX2_poll_105 : decode cX2_poll 105 = .ok (.aload_n 2, 1) := by decide +kernel
theorem dX2_poll_106 : decode cX2_poll 106 = .ok (.getfield 178, 3) := by decide +kernel
theorem dX2_poll_109 : decode cX2_poll 109 = .ok (.if_icmp .ge 48, 3) := by decide +kernel
theorem dX2_poll_112 : decode cX2_poll 112 = .ok (.iload_n 3, 1) := by decide +kernel
theorem dX2_poll_113 : decode cX2_poll 113 = .ok (.iconst 3, 1) := by decide +kernel
theorem dX2_poll_114 : decode cX2_poll 114 = .ok (.if_icmp .ge 43, 3) := by decide +kernel
theorem dX2_poll_117 : decode cX2_poll 117 = .ok (.aload_n 2, 1) := by decide +kernel
theorem dX2_poll_118 : decode cX2_poll 118 = .ok (.iload_n 3, 1) := by decide +kernel
theorem dX2_poll_119 : decode cX2_poll 119 = .ok (.aload_n 1, 1) := by decide +kernel
theorem dX2_poll_120 : decode cX2_poll 120 = .ok (.getfield 157, 3) := by decide +kernel
theorem dX2_poll_123 : decode cX2_poll 123 = .ok (.invokevirtual 181, 3) := by decide +kernel
theorem dX2_poll_126 : decode cX2_poll 126 = .ok (.aload_n 2, 1) := by decide +kernel
theorem dX2_poll_127 : decode cX2_poll 127 = .ok (.getfield 184, 3) := by decide +kernel
theorem dX2_poll_130 : decode cX2_poll 130 = .ok (.iload_n 3, 1) := by decide +kernel
theorem dX2_poll_131 : decode cX2_poll 131 = .ok (.iaload, 1) := by decide +kernel
theorem dX2_poll_132 : decode cX2_poll 132 = .ok (.if_icmp .gt 19, 3) := by decide +kernel
theorem dX2_poll_135 : decode cX2_poll 135 = .ok (.aload_n 0, 1) := by decide +kernel
theorem dX2_poll_136 : decode cX2_poll 136 = .ok (.aload_n 0, 1) := by decide +kernel
theorem dX2_poll_137 : decode cX2_poll 137 = .ok (.aload_n 1, 1) := by decide +kernel
theorem dX2_poll_138 : decode cX2_poll 138 = .ok (.iload_n 3, 1) := by decide +kernel
theorem dX2_poll_139 : decode cX2_poll 139 = .ok (.invokevirtual 187, 3) := by decide +kernel
theorem dX2_poll_142 : decode cX2_poll 142 = .ok (.aload_n 2, 1) := by decide +kernel
theorem dX2_poll_143 : decode cX2_poll 143 = .ok (.getfield 190, 3) := by decide +kernel
theorem dX2_poll_146 : decode cX2_poll 146 = .ok (.iload_n 3, 1) := by decide +kernel
theorem dX2_poll_147 : decode cX2_poll 147 = .ok (.iaload, 1) := by decide +kernel
theorem dX2_poll_148 : decode cX2_poll 148 = .ok (.invokevirtual 174, 3) := by decide +kernel
theorem dX2_poll_151 : decode cX2_poll 151 = .ok (.iinc 3 1, 3) := by decide +kernel
theorem dX2_poll_154 : decode cX2_poll 154 = .ok (.goto (-58), 3) := by decide +kernel
theorem dX2_poll_157 : decode cX2_poll 157 = .ok (.iconst 0, 1) := by decide +kernel
theorem dX2_poll_158 : decode cX2_poll 158 = .ok (.istore_n 3, 1) := by decide +kernel
theorem dX2_poll_159 : decode cX2_poll 159 = .ok (.aload_n 0, 1) := by decide +kernel
theorem dX2_poll_160 : decode cX2_poll 160 = .ok (.getfield 9, 3) := by decide +kernel
theorem dX2_poll_163 : decode cX2_poll 163 = .ok (.iconst 2, 1) := by decide +kernel
theorem dX2_poll_164 : decode cX2_poll 164 = .ok (.if_icmp .eq 63, 3) := by decide +kernel
theorem dX2_poll_167 : decode cX2_poll 167 = .ok (.iload_n 3, 1) := by decide +kernel
theorem dX2_poll_168 : decode cX2_poll 168 = .ok (.aload_n 0, 1) := by decide +kernel
theorem dX2_poll_169 : decode cX2_poll 169 = .ok (.getfield 43, 3) := by decide +kernel
theorem dX2_poll_172 : decode cX2_poll 172 = .ok (.getfield 193, 3) := by decide +kernel
theorem dX2_poll_175 : decode cX2_poll 175 = .ok (.if_icmp .ge 52, 3) := by decide +kernel
theorem dX2_poll_178 : decode cX2_poll 178 = .ok (.iload_n 3, 1) := by decide +kernel
theorem dX2_poll_179 : decode cX2_poll 179 = .ok (.iconst 4, 1) := by decide +kernel
theorem dX2_poll_180 : decode cX2_poll 180 = .ok (.if_icmp .ge 47, 3) := by decide +kernel
theorem dX2_poll_183 : decode cX2_poll 183 = .ok (.aload_n 0, 1) := by decide +kernel
theorem dX2_poll_184 : decode cX2_poll 184 = .ok (.getfield 43, 3) := by decide +kernel
theorem dX2_poll_187 : decode cX2_poll 187 = .ok (.getfield 196, 3) := by decide +kernel
theorem dX2_poll_190 : decode cX2_poll 190 = .ok (.iload_n 3, 1) := by decide +kernel
theorem dX2_poll_191 : decode cX2_poll 191 = .ok (.iaload, 1) := by decide +kernel
theorem dX2_poll_192 : decode cX2_poll 192 = .ok (.aload_n 1, 1) := by decide +kernel
theorem dX2_poll_193 : decode cX2_poll 193 = .ok (.getfield 73, 3) := by decide +kernel
theorem dX2_poll_196 : decode cX2_poll 196 = .ok (.if_icmp .ne 25, 3) := by decide +kernel
theorem dX2_poll_199 : decode cX2_poll 199 = .ok (.aload_n 0, 1) := by decide +kernel
theorem dX2_poll_200 : decode cX2_poll 200 = .ok (.aload_n 0, 1) := by decide +kernel
theorem dX2_poll_201 : decode cX2_poll 201 = .ok (.getfield 43, 3) := by decide +kernel
theorem dX2_poll_204 : decode cX2_poll 204 = .ok (.getfield 199, 3) := by decide +kernel
theorem dX2_poll_207 : decode cX2_poll 207 = .ok (.iload_n 3, 1) := by decide +kernel
theorem dX2_poll_208 : decode cX2_poll 208 = .ok (.iaload, 1) := by decide +kernel
theorem dX2_poll_209 : decode cX2_poll 209 = .ok (.aload_n 0, 1) := by decide +kernel
theorem dX2_poll_210 : decode cX2_poll 210 = .ok (.getfield 43, 3) := by decide +kernel
theorem dX2_poll_213 : decode cX2_poll 213 = .ok (.getfield 202, 3) := by decide +kernel
theorem dX2_poll_216 : decode cX2_poll 216 = .ok (.iload_n 3, 1) := by decide +kernel
theorem dX2_poll_217 : decode cX2_poll 217 = .ok (.iaload, 1) := by decide +kernel
theorem dX2_poll_218 : decode cX2_poll 218 = .ok (.invokevirtual 174, 3) := by decide +kernel
theorem dX2_poll_221 : decode cX2_poll 221 = .ok (.iinc 3 1, 3) := by decide +kernel
theorem dX2_poll_224 : decode cX2_poll 224 = .ok (.goto (-65), 3) := by decide +kernel
theorem dX2_poll_227 : decode cX2_poll 227 = .ok (.return_, 1) := by decide +kernel
noncomputable def b_X2_poll_0 (rec : Rk) (n : Nat) (x1 : Int) (h : Hp) : Option (Int × Hp) :=
  rec 1 [x1, 0] h
noncomputable def b_X2_poll_1 (rec : Rk) (n : Nat) (x1 x2 : Int) (h : Hp) : Option (Int × Hp) :=
  if 4 ≤ x2 then (
    rec 2 [x1, 0] h
  ) else (
    ck (0 ≤ x2 ∧ x2 < 4) <|
    lt (sI h 31 0 x2 0) fun h1 =>
    ck (-2147483648 ≤ x2 + 1 ∧ x2 + 1 < 2147483648) <|
    rec 1 [x1, x2 + 1] h1
  )
noncomputable def b_X2_poll_2 (rec : Rk) (n : Nat) (x1 x2 : Int) (h : Hp) : Option (Int × Hp) :=
  rf (gR h 2 0 0) 0 fun j1 =>
  bd (f_X0_size n j1 h) fun v2 h3 =>
  if v2 ≤ x2 then (
    rf (gR h3 2 0 0) 0 fun j4 =>
    rec 4 [x1, j4, 0] h3
  ) else (
    ck (0 ≤ x2 ∧ x2 < 9) <|
    if (gI h3 29 0 x2) ≤ 0 then (
      rec 3 [x1, x2, (-1), x2] h3
    ) else (
      ck (0 ≤ x2 ∧ x2 < 9) <|
      bd (f_X2_wishOf n x1 x2 (gI h3 29 0 x2) h3) fun v5 h6 =>
      rec 3 [x1, x2, v5, x2] h6
    )
  )
noncomputable def b_X2_poll_3 (rec : Rk) (n : Nat) (x1 x2 y0 y1 : Int) (h : Hp) : Option (Int × Hp) :=
  ck (0 ≤ y1 ∧ y1 < 9) <|
  lt (sI h 30 0 y1 y0) fun h1 =>
  ck (0 ≤ x2 ∧ x2 < 9) <|
  ck (0 ≤ x2 ∧ x2 < 9) <|
  bd (f_X2_give n (gI h1 30 0 x2) (gI h1 29 0 x2) h1) fun v2 h3 =>
  ck (-2147483648 ≤ x2 + 1 ∧ x2 + 1 < 2147483648) <|
  rec 2 [x1, x2 + 1] h3
noncomputable def b_X2_poll_4 (rec : Rk) (n : Nat) (x1 x2 x3 : Int) (h : Hp) : Option (Int × Hp) :=
  if (gI h 2 0 1) = 1 then (
    rec 6 [x1] h
  ) else (
    if (gI h 9 x2 6) ≤ x3 then (
      rec 6 [x1] h
    ) else (
      if 3 ≤ x3 then (
        rec 6 [x1] h
      ) else (
        bd (f_X9_fromIsle n x2 x3 (gI h 10 x1 1) h) fun v1 h2 =>
        ck (0 ≤ x3 ∧ x3 < 3) <|
        if (gI h2 53 x2 x3) < v1 then (
          rec 5 [x1, x2, x3] h2
        ) else (
          bd (f_X2_bribe n x1 x3 h2) fun v3 h4 =>
          ck (0 ≤ x3 ∧ x3 < 3) <|
          bd (f_X2_give n v3 (gI h4 54 x2 x3) h4) fun v5 h6 =>
          rec 5 [x1, x2, x3] h6
        )
      )
    )
  )
noncomputable def b_X2_poll_5 (rec : Rk) (n : Nat) (x1 x2 x3 : Int) (h : Hp) : Option (Int × Hp) :=
  ck (-2147483648 ≤ x3 + 1 ∧ x3 + 1 < 2147483648) <|
  rec 4 [x1, x2, x3 + 1] h
noncomputable def b_X2_poll_6 (rec : Rk) (n : Nat) (x1 : Int) (h : Hp) : Option (Int × Hp) :=
  rec 7 [x1, 0] h
noncomputable def b_X2_poll_7 (rec : Rk) (n : Nat) (x1 x3 : Int) (h : Hp) : Option (Int × Hp) :=
  if (gI h 2 0 1) = 2 then (
    some (0, h)
  ) else (
    rf (gR h 2 0 0) 0 fun j1 =>
    if (gI h 0 j1 10) ≤ x3 then (
      some (0, h)
    ) else (
      if 4 ≤ x3 then (
        some (0, h)
      ) else (
        rf (gR h 2 0 0) 0 fun j2 =>
        ck (0 ≤ x3 ∧ x3 < 4) <|
        if (gI h 22 j2 x3) = (gI h 10 x1 0) then (
          rf (gR h 2 0 0) 0 fun j3 =>
          ck (0 ≤ x3 ∧ x3 < 4) <|
          rf (gR h 2 0 0) 0 fun j4 =>
          ck (0 ≤ x3 ∧ x3 < 4) <|
          bd (f_X2_give n (gI h 23 j3 x3) (gI h 24 j4 x3) h) fun v5 h6 =>
          rec 8 [x1, x3] h6
        ) else (
          rec 8 [x1, x3] h
        )
      )
    )
  )
noncomputable def b_X2_poll_8 (rec : Rk) (n : Nat) (x1 x3 : Int) (h : Hp) : Option (Int × Hp) :=
  ck (-2147483648 ≤ x3 + 1 ∧ x3 + 1 < 2147483648) <|
  rec 7 [x1, x3 + 1] h
noncomputable def g_X2_poll (n : Nat) : Rk := Nat.rec (motive := fun _ => Rk) (fun _ _ _ => none) (fun n rec k l h => if k = 0 then b_X2_poll_0 rec n (l.getD 0 0) h else if k = 1 then b_X2_poll_1 rec n (l.getD 0 0) (l.getD 1 0) h else if k = 2 then b_X2_poll_2 rec n (l.getD 0 0) (l.getD 1 0) h else if k = 3 then b_X2_poll_3 rec n (l.getD 0 0) (l.getD 1 0) (l.getD 2 0) (l.getD 3 0) h else if k = 4 then b_X2_poll_4 rec n (l.getD 0 0) (l.getD 1 0) (l.getD 2 0) h else if k = 5 then b_X2_poll_5 rec n (l.getD 0 0) (l.getD 1 0) (l.getD 2 0) h else if k = 6 then b_X2_poll_6 rec n (l.getD 0 0) h else if k = 7 then b_X2_poll_7 rec n (l.getD 0 0) (l.getD 1 0) h else if k = 8 then b_X2_poll_8 rec n (l.getD 0 0) (l.getD 1 0) h else none) n
noncomputable def f_X2_poll (n : Nat) (x1 : Int) (h : Hp) : Option (Int × Hp) := g_X2_poll n 0 [x1] h
set_option maxHeartbeats 4000000 in
set_option maxRecDepth 100000 in
theorem t_X2_poll_0 (E : xE) (d : Nat) (rec : Rk) (n : Nat) (r : Int × Hp) (hr_2 : ∀ (x1 x2 : Int) (h : Hp), Lay h → rec 1 [x1, x2] h = some r → X E mX2_poll (d + 5) (0, 0) (0, 0) 2 [some (xr 2 0), some (xr 10 x1), some (xi x2), none] [] h (PoV r)) (x1 : Int) (h : Hp) (hL : Lay h) (hF : b_X2_poll_0 rec n x1 h = some r) : X E mX2_poll (d + 5) (0, 0) (0, 0) 0 [some (xr 2 0), some (xr 10 x1), none, none] [] h (PoV r) := by
  unfold b_X2_poll_0 at hF
  refine x_iconst (n := 0) (b := 1) dX2_poll_0 (by decide) rfl ?_
  refine x_istore_n (i := 2) (b := 2) (ls2 := [some (xr 2 0), some (xr 10 x1), some (xi 0), none]) dX2_poll_1 rfl (Nat.le_of_ble_eq_true rfl) rfl rfl ?_
  exact x_dp (ls2 := [some (xr 2 0), some (xr 10 x1), some (xi 0), none]) ⟨rfl, rfl, rfl, trivial⟩ (hr_2 x1 0 h hL hF)
set_option maxHeartbeats 4000000 in
set_option maxRecDepth 100000 in
theorem t_X2_poll_1 (E : xE) (d : Nat) (rec : Rk) (n : Nat) (r : Int × Hp) (hr_2 : ∀ (x1 x2 : Int) (h : Hp), Lay h → rec 1 [x1, x2] h = some r → X E mX2_poll (d + 5) (0, 0) (0, 0) 2 [some (xr 2 0), some (xr 10 x1), some (xi x2), none] [] h (PoV r)) (hr_22 : ∀ (x1 x2 : Int) (h : Hp), Lay h → rec 2 [x1, x2] h = some r → X E mX2_poll (d + 5) (0, 0) (0, 0) 22 [some (xr 2 0), some (xr 10 x1), some (xi x2), none] [] h (PoV r)) (x1 x2 : Int) (h : Hp) (hL : Lay h) (hF : b_X2_poll_1 rec n x1 x2 h = some r) : X E mX2_poll (d + 5) (0, 0) (0, 0) 2 [some (xr 2 0), some (xr 10 x1), some (xi x2), none] [] h (PoV r) := by
  unfold b_X2_poll_1 at hF
  refine x_iload_n (i := 2) (b := 3) dX2_poll_2 rfl rfl rfl ?_
  refine x_iconst (n := 4) (b := 4) dX2_poll_3 (by decide) rfl ?_
  refine x_icmp_ge (tgt := 20) (b := 7) dX2_poll_4 (by decide) rfl (fun hc => ?_) (fun hc => ?_)
  · replace hF := br_T hc hF
    refine x_iconst (n := 0) (b := 21) dX2_poll_20 (by decide) rfl ?_
    refine x_istore_n (i := 2) (b := 22) (ls2 := [some (xr 2 0), some (xr 10 x1), some (xi 0), none]) dX2_poll_21 rfl (Nat.le_of_ble_eq_true rfl) rfl rfl ?_
    exact x_dp (ls2 := [some (xr 2 0), some (xr 10 x1), some (xi 0), none]) ⟨rfl, rfl, rfl, trivial⟩ (hr_22 x1 0 h hL hF)
  · replace hF := br_F hc hF
    refine x_aload_n (i := 0) (b := 8) dX2_poll_7 rfl rfl rfl ?_
    refine x_getL (j := 0) (t := (31, 0, true)) (b := 11) fk_X2_25 dX2_poll_8 rfl hL rfl rfl rfl ?_
    refine x_iload_n (i := 2) (b := 12) dX2_poll_11 rfl rfl rfl ?_
    refine x_iconst (n := 0) (b := 13) dX2_poll_12 (by decide) rfl ?_
    obtain ⟨hs, hF⟩ := ck_e hF
    have hs1 := hs
    refine x_iast (b := 14) ak_31 dX2_poll_13 hs1 rfl ?_
    obtain ⟨h1, e_h1, hF⟩ := lt_e hF
    refine x_hp (h2 := h1) e_h1 ?_
    replace hL : Lay h1 := by rw [← e_h1]; exact hL
    obtain ⟨hs, hF⟩ := ck_e hF
    refine x_iinc (i := 2) (b := 17) (ls2 := [some (xr 2 0), some (xr 10 x1), some (xi (x2 + 1)), none]) dX2_poll_14 rfl (Nat.le_of_ble_eq_true rfl) hs rfl rfl ?_
    refine x_goto (tgt := 2) dX2_poll_17 (by decide) ?_
    exact x_dp (ls2 := [some (xr 2 0), some (xr 10 x1), some (xi (x2 + 1)), none]) ⟨rfl, rfl, rfl, trivial⟩ (hr_2 x1 (x2 + 1) h1 hL hF)
set_option maxHeartbeats 4000000 in
set_option maxRecDepth 100000 in
theorem t_X2_poll_2 (E : xE) (d : Nat) (rec : Rk) (n : Nat) (r : Int × Hp) (hr_63 : ∀ (x1 x2 y0 y1 : Int) (h : Hp), Lay h → rec 3 [x1, x2, y0, y1] h = some r → X E mX2_poll (d + 5) (0, 0) (0, 0) 63 [some (xr 2 0), some (xr 10 x1), some (xi x2), none] [xi y0, xi y1, xr 30 0] h (PoV r)) (hr_96 : ∀ (x1 x2 x3 : Int) (h : Hp), Lay h → rec 4 [x1, x2, x3] h = some r → X E mX2_poll (d + 5) (0, 0) (0, 0) 96 [some (xr 2 0), some (xr 10 x1), some (xr 9 x2), some (xi x3)] [] h (PoV r)) (x1 x2 : Int) (h : Hp) (hL : Lay h) (hF : b_X2_poll_2 rec n x1 x2 h = some r) : X E mX2_poll (d + 5) (0, 0) (0, 0) 22 [some (xr 2 0), some (xr 10 x1), some (xi x2), none] [] h (PoV r) := by
  unfold b_X2_poll_2 at hF
  refine x_iload_n (i := 2) (b := 23) dX2_poll_22 rfl rfl rfl ?_
  refine x_aload_n (i := 0) (b := 24) dX2_poll_23 rfl rfl rfl ?_
  obtain ⟨j1, e_j1, hF⟩ := rf_e hF
  refine x_getR (v := some (0, j1)) (b := 27) fk_X2_43 dX2_poll_24 rfl e_j1 rfl ?_
  obtain ⟨v2, h3, hq, hF⟩ := bd_e hF
  refine x_callV (as := []) (rest := [xi x2]) (b := 30) (c_X0_size (d + 3) n j1 h _ hL hq) dX2_poll_27 cw_X2_79 ⟨_, _, rfl, Nat.le_of_ble_eq_true rfl⟩ rfl rfl (Nat.le_of_ble_eq_true rfl) ⟨Nat.le_refl _, Nat.le_refl _⟩ rfl (fun rv hh hp _ => ?_)
  obtain ⟨rfl, rfl, hL⟩ := hp
  refine x_icmp_ge (tgt := 86) (b := 33) dX2_poll_30 (by decide) rfl (fun hc => ?_) (fun hc => ?_)
  · replace hF := br_T hc hF
    refine x_aload_n (i := 0) (b := 87) dX2_poll_86 rfl rfl rfl ?_
    obtain ⟨j4, e_j4, hF⟩ := rf_e hF
    refine x_getR (v := some (0, j4)) (b := 90) fk_X2_43 dX2_poll_87 rfl e_j4 rfl ?_
    refine x_getL (j := j4) (t := (9, 0, true)) (b := 93) fk_X2_124 dX2_poll_90 rfl hL rfl rfl rfl ?_
    refine x_astore_n (i := 2) (b := 94) (ls2 := [some (xr 2 0), some (xr 10 x1), some (xr 9 j4), none]) dX2_poll_93 rfl (Nat.le_of_ble_eq_true rfl) rfl rfl ?_
    refine x_iconst (n := 0) (b := 95) dX2_poll_94 (by decide) rfl ?_
    refine x_istore_n (i := 3) (b := 96) (ls2 := [some (xr 2 0), some (xr 10 x1), some (xr 9 j4), some (xi 0)]) dX2_poll_95 rfl (Nat.le_of_ble_eq_true rfl) rfl rfl ?_
    exact x_dp (ls2 := [some (xr 2 0), some (xr 10 x1), some (xr 9 j4), some (xi 0)]) ⟨rfl, rfl, rfl, rfl, trivial⟩ (hr_96 x1 j4 0 h3 hL hF)
  · replace hF := br_F hc hF
    refine x_aload_n (i := 0) (b := 34) dX2_poll_33 rfl rfl rfl ?_
    refine x_getL (j := 0) (t := (30, 0, true)) (b := 37) fk_X2_22 dX2_poll_34 rfl hL rfl rfl rfl ?_
    refine x_iload_n (i := 2) (b := 38) dX2_poll_37 rfl rfl rfl ?_
    refine x_aload_n (i := 0) (b := 39) dX2_poll_38 rfl rfl rfl ?_
    refine x_getL (j := 0) (t := (29, 0, true)) (b := 42) fk_X2_18 dX2_poll_39 rfl hL rfl rfl rfl ?_
    refine x_iload_n (i := 2) (b := 43) dX2_poll_42 rfl rfl rfl ?_
    obtain ⟨hs, hF⟩ := ck_e hF
    refine x_iald (v := gI h3 29 0 x2) (b := 44) ak_29 dX2_poll_43 hs rfl rfl ?_
    refine x_if_le (tgt := 62) (b := 47) dX2_poll_44 (by decide) rfl (fun hc => ?_) (fun hc => ?_)
    · replace hF := br_T hc hF
      refine x_iconst (n := (-1)) (b := 63) dX2_poll_62 (by decide) rfl ?_
      exact x_dp (ls2 := [some (xr 2 0), some (xr 10 x1), some (xi x2), none]) ⟨rfl, rfl, rfl, trivial⟩ (hr_63 x1 x2 (-1) x2 h3 hL hF)
    · replace hF := br_F hc hF
      refine x_aload_n (i := 0) (b := 48) dX2_poll_47 rfl rfl rfl ?_
      refine x_aload_n (i := 1) (b := 49) dX2_poll_48 rfl rfl rfl ?_
      refine x_iload_n (i := 2) (b := 50) dX2_poll_49 rfl rfl rfl ?_
      refine x_aload_n (i := 0) (b := 51) dX2_poll_50 rfl rfl rfl ?_
      refine x_getL (j := 0) (t := (29, 0, true)) (b := 54) fk_X2_18 dX2_poll_51 rfl hL rfl rfl rfl ?_
      refine x_iload_n (i := 2) (b := 55) dX2_poll_54 rfl rfl rfl ?_
      obtain ⟨hs, hF⟩ := ck_e hF
      refine x_iald (v := gI h3 29 0 x2) (b := 56) ak_29 dX2_poll_55 hs rfl rfl ?_
      obtain ⟨v5, h6, hq, hF⟩ := bd_e hF
      refine x_callV (as := [xr 10 x1, xi x2, xi (gI h3 29 0 x2)]) (rest := [xi x2, xr 30 0]) (b := 59) (c_X2_wishOf d n x1 x2 (gI h3 29 0 x2) h3 _ hL hq) dX2_poll_56 cw_X2_170 ⟨_, _, rfl, Nat.le_of_ble_eq_true rfl⟩ rfl rfl (Nat.le_of_ble_eq_true rfl) ⟨Nat.le_refl _, Nat.le_refl _⟩ rfl (fun rv hh hp _ => ?_)
      obtain ⟨rfl, rfl, hL⟩ := hp
      refine x_goto (tgt := 63) dX2_poll_59 (by decide) ?_
      exact x_dp (ls2 := [some (xr 2 0), some (xr 10 x1), some (xi x2), none]) ⟨rfl, rfl, rfl, trivial⟩ (hr_63 x1 x2 v5 x2 h6 hL hF)
set_option maxHeartbeats 4000000 in
set_option maxRecDepth 100000 in
theorem t_X2_poll_3 (E : xE) (d : Nat) (rec : Rk) (n : Nat) (r : Int × Hp) (hr_22 : ∀ (x1 x2 : Int) (h : Hp), Lay h → rec 2 [x1, x2] h = some r → X E mX2_poll (d + 5) (0, 0) (0, 0) 22 [some (xr 2 0), some (xr 10 x1), some (xi x2), none] [] h (PoV r)) (x1 x2 y0 y1 : Int) (h : Hp) (hL : Lay h) (hF : b_X2_poll_3 rec n x1 x2 y0 y1 h = some r) : X E mX2_poll (d + 5) (0, 0) (0, 0) 63 [some (xr 2 0), some (xr 10 x1), some (xi x2), none] [xi y0, xi y1, xr 30 0] h (PoV r) := by
  unfold b_X2_poll_3 at hF
  obtain ⟨hs, hF⟩ := ck_e hF
  have hs1 := hs
  refine x_iast (b := 64) ak_30 dX2_poll_63 hs1 rfl ?_
  obtain ⟨h1, e_h1, hF⟩ := lt_e hF
  refine x_hp (h2 := h1) e_h1 ?_
  replace hL : Lay h1 := by rw [← e_h1]; exact hL
  refine x_aload_n (i := 0) (b := 65) dX2_poll_64 rfl rfl rfl ?_
  refine x_aload_n (i := 0) (b := 66) dX2_poll_65 rfl rfl rfl ?_
  refine x_getL (j := 0) (t := (30, 0, true)) (b := 69) fk_X2_22 dX2_poll_66 rfl hL rfl rfl rfl ?_
  refine x_iload_n (i := 2) (b := 70) dX2_poll_69 rfl rfl rfl ?_
  obtain ⟨hs, hF⟩ := ck_e hF
  refine x_iald (v := gI h1 30 0 x2) (b := 71) ak_30 dX2_poll_70 hs rfl rfl ?_
  refine x_aload_n (i := 0) (b := 72) dX2_poll_71 rfl rfl rfl ?_
  refine x_getL (j := 0) (t := (29, 0, true)) (b := 75) fk_X2_18 dX2_poll_72 rfl hL rfl rfl rfl ?_
  refine x_iload_n (i := 2) (b := 76) dX2_poll_75 rfl rfl rfl ?_
  obtain ⟨hs, hF⟩ := ck_e hF
  refine x_iald (v := gI h1 29 0 x2) (b := 77) ak_29 dX2_poll_76 hs rfl rfl ?_
  obtain ⟨v2, h3, hq, hF⟩ := bd_e hF
  refine x_callV (as := [xi (gI h1 30 0 x2), xi (gI h1 29 0 x2)]) (rest := []) (b := 80) (c_X2_give (d + 2) n (gI h1 30 0 x2) (gI h1 29 0 x2) h1 _ hL hq) dX2_poll_77 cw_X2_174 ⟨_, _, rfl, Nat.le_of_ble_eq_true rfl⟩ rfl rfl (Nat.le_of_ble_eq_true rfl) ⟨Nat.le_refl _, Nat.le_refl _⟩ rfl (fun rv hh hp _ => ?_)
  obtain ⟨rfl, rfl, hL⟩ := hp
  obtain ⟨hs, hF⟩ := ck_e hF
  refine x_iinc (i := 2) (b := 83) (ls2 := [some (xr 2 0), some (xr 10 x1), some (xi (x2 + 1)), none]) dX2_poll_80 rfl (Nat.le_of_ble_eq_true rfl) hs rfl rfl ?_
  refine x_goto (tgt := 22) dX2_poll_83 (by decide) ?_
  exact x_dp (ls2 := [some (xr 2 0), some (xr 10 x1), some (xi (x2 + 1)), none]) ⟨rfl, rfl, rfl, trivial⟩ (hr_22 x1 (x2 + 1) h3 hL hF)
set_option maxHeartbeats 4000000 in
set_option maxRecDepth 100000 in
theorem t_X2_poll_4 (E : xE) (d : Nat) (rec : Rk) (n : Nat) (r : Int × Hp) (hr_151 : ∀ (x1 x2 x3 : Int) (h : Hp), Lay h → rec 5 [x1, x2, x3] h = some r → X E mX2_poll (d + 5) (0, 0) (0, 0) 151 [some (xr 2 0), some (xr 10 x1), some (xr 9 x2), some (xi x3)] [] h (PoV r)) (hr_157 : ∀ (x1 : Int) (h : Hp), Lay h → rec 6 [x1] h = some r → X E mX2_poll (d + 5) (0, 0) (0, 0) 157 [some (xr 2 0), some (xr 10 x1), none, none] [] h (PoV r)) (x1 x2 x3 : Int) (h : Hp) (hL : Lay h) (hF : b_X2_poll_4 rec n x1 x2 x3 h = some r) : X E mX2_poll (d + 5) (0, 0) (0, 0) 96 [some (xr 2 0), some (xr 10 x1), some (xr 9 x2), some (xi x3)] [] h (PoV r) := by
  unfold b_X2_poll_4 at hF
  refine x_aload_n (i := 0) (b := 97) dX2_poll_96 rfl rfl rfl ?_
  refine x_getI (v := gI h 2 0 1) (b := 100) fk_X2_9 dX2_poll_97 (by decide) rfl rfl ?_
  refine x_iconst (n := 1) (b := 101) dX2_poll_100 (by decide) rfl ?_
  refine x_icmp_eq (tgt := 157) (b := 104) dX2_poll_101 (by decide) rfl (fun hc => ?_) (fun hc => ?_)
  · replace hF := br_T hc hF
    exact x_dp (ls2 := [some (xr 2 0), some (xr 10 x1), none, none]) ⟨rfl, rfl, trivial⟩ (hr_157 x1 h hL hF)
  · replace hF := br_F hc hF
    refine x_iload_n (i := 3) (b := 105) dX2_poll_104 rfl rfl rfl ?_
    refine x_aload_n (i := 2) (b := 106) dX2_poll_105 rfl rfl rfl ?_
    refine x_getI (v := gI h 9 x2 6) (b := 109) fk_X2_178 dX2_poll_106 (by decide) rfl rfl ?_
    refine x_icmp_ge (tgt := 157) (b := 112) dX2_poll_109 (by decide) rfl (fun hc => ?_) (fun hc => ?_)
    · replace hF := br_T hc hF
      exact x_dp (ls2 := [some (xr 2 0), some (xr 10 x1), none, none]) ⟨rfl, rfl, trivial⟩ (hr_157 x1 h hL hF)
    · replace hF := br_F hc hF
      refine x_iload_n (i := 3) (b := 113) dX2_poll_112 rfl rfl rfl ?_
      refine x_iconst (n := 3) (b := 114) dX2_poll_113 (by decide) rfl ?_
      refine x_icmp_ge (tgt := 157) (b := 117) dX2_poll_114 (by decide) rfl (fun hc => ?_) (fun hc => ?_)
      · replace hF := br_T hc hF
        exact x_dp (ls2 := [some (xr 2 0), some (xr 10 x1), none, none]) ⟨rfl, rfl, trivial⟩ (hr_157 x1 h hL hF)
      · replace hF := br_F hc hF
        refine x_aload_n (i := 2) (b := 118) dX2_poll_117 rfl rfl rfl ?_
        refine x_iload_n (i := 3) (b := 119) dX2_poll_118 rfl rfl rfl ?_
        refine x_aload_n (i := 1) (b := 120) dX2_poll_119 rfl rfl rfl ?_
        refine x_getI (v := gI h 10 x1 1) (b := 123) fk_X2_157 dX2_poll_120 (by decide) rfl rfl ?_
        obtain ⟨v1, h2, hq, hF⟩ := bd_e hF
        refine x_callV (as := [xi x3, xi (gI h 10 x1 1)]) (rest := []) (b := 126) (c_X9_fromIsle (d + 3) n x2 x3 (gI h 10 x1 1) h _ hL hq) dX2_poll_123 cw_X2_181 ⟨_, _, rfl, Nat.le_of_ble_eq_true rfl⟩ rfl rfl (Nat.le_of_ble_eq_true rfl) ⟨Nat.le_refl _, Nat.le_refl _⟩ rfl (fun rv hh hp _ => ?_)
        obtain ⟨rfl, rfl, hL⟩ := hp
        refine x_aload_n (i := 2) (b := 127) dX2_poll_126 rfl rfl rfl ?_
        refine x_getL (j := x2) (t := (53, 0, true)) (b := 130) fk_X2_184 dX2_poll_127 rfl hL rfl rfl rfl ?_
        refine x_iload_n (i := 3) (b := 131) dX2_poll_130 rfl rfl rfl ?_
        obtain ⟨hs, hF⟩ := ck_e hF
        refine x_iald (v := gI h2 53 x2 x3) (b := 132) ak_53 dX2_poll_131 hs rfl rfl ?_
        refine x_icmp_gt (tgt := 151) (b := 135) dX2_poll_132 (by decide) rfl (fun hc => ?_) (fun hc => ?_)
        · replace hF := br_T hc hF
          exact x_dp (ls2 := [some (xr 2 0), some (xr 10 x1), some (xr 9 x2), some (xi x3)]) ⟨rfl, rfl, rfl, rfl, trivial⟩ (hr_151 x1 x2 x3 h2 hL hF)
        · replace hF := br_F hc hF
          refine x_aload_n (i := 0) (b := 136) dX2_poll_135 rfl rfl rfl ?_
          refine x_aload_n (i := 0) (b := 137) dX2_poll_136 rfl rfl rfl ?_
          refine x_aload_n (i := 1) (b := 138) dX2_poll_137 rfl rfl rfl ?_
          refine x_iload_n (i := 3) (b := 139) dX2_poll_138 rfl rfl rfl ?_
          obtain ⟨v3, h4, hq, hF⟩ := bd_e hF
          refine x_callV (as := [xr 10 x1, xi x3]) (rest := [xr 2 0]) (b := 142) (c_X2_bribe (d + 1) n x1 x3 h2 _ hL hq) dX2_poll_139 cw_X2_187 ⟨_, _, rfl, Nat.le_of_ble_eq_true rfl⟩ rfl rfl (Nat.le_of_ble_eq_true rfl) ⟨Nat.le_refl _, Nat.le_refl _⟩ rfl (fun rv hh hp _ => ?_)
          obtain ⟨rfl, rfl, hL⟩ := hp
          refine x_aload_n (i := 2) (b := 143) dX2_poll_142 rfl rfl rfl ?_
          refine x_getL (j := x2) (t := (54, 0, true)) (b := 146) fk_X2_190 dX2_poll_143 rfl hL rfl rfl rfl ?_
          refine x_iload_n (i := 3) (b := 147) dX2_poll_146 rfl rfl rfl ?_
          obtain ⟨hs, hF⟩ := ck_e hF
          refine x_iald (v := gI h4 54 x2 x3) (b := 148) ak_54 dX2_poll_147 hs rfl rfl ?_
          obtain ⟨v5, h6, hq, hF⟩ := bd_e hF
          refine x_callV (as := [xi v3, xi (gI h4 54 x2 x3)]) (rest := []) (b := 151) (c_X2_give (d + 2) n v3 (gI h4 54 x2 x3) h4 _ hL hq) dX2_poll_148 cw_X2_174 ⟨_, _, rfl, Nat.le_of_ble_eq_true rfl⟩ rfl rfl (Nat.le_of_ble_eq_true rfl) ⟨Nat.le_refl _, Nat.le_refl _⟩ rfl (fun rv hh hp _ => ?_)
          obtain ⟨rfl, rfl, hL⟩ := hp
          exact x_dp (ls2 := [some (xr 2 0), some (xr 10 x1), some (xr 9 x2), some (xi x3)]) ⟨rfl, rfl, rfl, rfl, trivial⟩ (hr_151 x1 x2 x3 h6 hL hF)
set_option maxHeartbeats 4000000 in
set_option maxRecDepth 100000 in
theorem t_X2_poll_5 (E : xE) (d : Nat) (rec : Rk) (n : Nat) (r : Int × Hp) (hr_96 : ∀ (x1 x2 x3 : Int) (h : Hp), Lay h → rec 4 [x1, x2, x3] h = some r → X E mX2_poll (d + 5) (0, 0) (0, 0) 96 [some (xr 2 0), some (xr 10 x1), some (xr 9 x2), some (xi x3)] [] h (PoV r)) (x1 x2 x3 : Int) (h : Hp) (hL : Lay h) (hF : b_X2_poll_5 rec n x1 x2 x3 h = some r) : X E mX2_poll (d + 5) (0, 0) (0, 0) 151 [some (xr 2 0), some (xr 10 x1), some (xr 9 x2), some (xi x3)] [] h (PoV r) := by
  unfold b_X2_poll_5 at hF
  obtain ⟨hs, hF⟩ := ck_e hF
  refine x_iinc (i := 3) (b := 154) (ls2 := [some (xr 2 0), some (xr 10 x1), some (xr 9 x2), some (xi (x3 + 1))]) dX2_poll_151 rfl (Nat.le_of_ble_eq_true rfl) hs rfl rfl ?_
  refine x_goto (tgt := 96) dX2_poll_154 (by decide) ?_
  exact x_dp (ls2 := [some (xr 2 0), some (xr 10 x1), some (xr 9 x2), some (xi (x3 + 1))]) ⟨rfl, rfl, rfl, rfl, trivial⟩ (hr_96 x1 x2 (x3 + 1) h hL hF)
set_option maxHeartbeats 4000000 in
set_option maxRecDepth 100000 in
theorem t_X2_poll_6 (E : xE) (d : Nat) (rec : Rk) (n : Nat) (r : Int × Hp) (hr_159 : ∀ (x1 x3 : Int) (h : Hp), Lay h → rec 7 [x1, x3] h = some r → X E mX2_poll (d + 5) (0, 0) (0, 0) 159 [some (xr 2 0), some (xr 10 x1), none, some (xi x3)] [] h (PoV r)) (x1 : Int) (h : Hp) (hL : Lay h) (hF : b_X2_poll_6 rec n x1 h = some r) : X E mX2_poll (d + 5) (0, 0) (0, 0) 157 [some (xr 2 0), some (xr 10 x1), none, none] [] h (PoV r) := by
  unfold b_X2_poll_6 at hF
  refine x_iconst (n := 0) (b := 158) dX2_poll_157 (by decide) rfl ?_
  refine x_istore_n (i := 3) (b := 159) (ls2 := [some (xr 2 0), some (xr 10 x1), none, some (xi 0)]) dX2_poll_158 rfl (Nat.le_of_ble_eq_true rfl) rfl rfl ?_
  exact x_dp (ls2 := [some (xr 2 0), some (xr 10 x1), none, some (xi 0)]) ⟨rfl, rfl, rfl, trivial⟩ (hr_159 x1 0 h hL hF)
set_option maxHeartbeats 4000000 in
set_option maxRecDepth 100000 in
theorem t_X2_poll_7 (E : xE) (d : Nat) (rec : Rk) (n : Nat) (r : Int × Hp) (hr_221 : ∀ (x1 x3 : Int) (h : Hp), Lay h → rec 8 [x1, x3] h = some r → X E mX2_poll (d + 5) (0, 0) (0, 0) 221 [some (xr 2 0), some (xr 10 x1), none, some (xi x3)] [] h (PoV r)) (x1 x3 : Int) (h : Hp) (hL : Lay h) (hF : b_X2_poll_7 rec n x1 x3 h = some r) : X E mX2_poll (d + 5) (0, 0) (0, 0) 159 [some (xr 2 0), some (xr 10 x1), none, some (xi x3)] [] h (PoV r) := by
  unfold b_X2_poll_7 at hF
  refine x_aload_n (i := 0) (b := 160) dX2_poll_159 rfl rfl rfl ?_
  refine x_getI (v := gI h 2 0 1) (b := 163) fk_X2_9 dX2_poll_160 (by decide) rfl rfl ?_
  refine x_iconst (n := 2) (b := 164) dX2_poll_163 (by decide) rfl ?_
  refine x_icmp_eq (tgt := 227) (b := 167) dX2_poll_164 (by decide) rfl (fun hc => ?_) (fun hc => ?_)
  · replace hF := br_T hc hF
    refine x_return dX2_poll_227 rfl ⟨Nat.le_refl _, Nat.le_refl _⟩ ?_
    cases hF
    exact ⟨rfl, rfl, hL⟩
  · replace hF := br_F hc hF
    refine x_iload_n (i := 3) (b := 168) dX2_poll_167 rfl rfl rfl ?_
    refine x_aload_n (i := 0) (b := 169) dX2_poll_168 rfl rfl rfl ?_
    obtain ⟨j1, e_j1, hF⟩ := rf_e hF
    refine x_getR (v := some (0, j1)) (b := 172) fk_X2_43 dX2_poll_169 rfl e_j1 rfl ?_
    refine x_getI (v := gI h 0 j1 10) (b := 175) fk_X2_193 dX2_poll_172 (by decide) rfl rfl ?_
    refine x_icmp_ge (tgt := 227) (b := 178) dX2_poll_175 (by decide) rfl (fun hc => ?_) (fun hc => ?_)
    · replace hF := br_T hc hF
      refine x_return dX2_poll_227 rfl ⟨Nat.le_refl _, Nat.le_refl _⟩ ?_
      cases hF
      exact ⟨rfl, rfl, hL⟩
    · replace hF := br_F hc hF
      refine x_iload_n (i := 3) (b := 179) dX2_poll_178 rfl rfl rfl ?_
      refine x_iconst (n := 4) (b := 180) dX2_poll_179 (by decide) rfl ?_
      refine x_icmp_ge (tgt := 227) (b := 183) dX2_poll_180 (by decide) rfl (fun hc => ?_) (fun hc => ?_)
      · replace hF := br_T hc hF
        refine x_return dX2_poll_227 rfl ⟨Nat.le_refl _, Nat.le_refl _⟩ ?_
        cases hF
        exact ⟨rfl, rfl, hL⟩
      · replace hF := br_F hc hF
        refine x_aload_n (i := 0) (b := 184) dX2_poll_183 rfl rfl rfl ?_
        obtain ⟨j2, e_j2, hF⟩ := rf_e hF
        refine x_getR (v := some (0, j2)) (b := 187) fk_X2_43 dX2_poll_184 rfl e_j2 rfl ?_
        refine x_getL (j := j2) (t := (22, 0, true)) (b := 190) fk_X2_196 dX2_poll_187 rfl hL rfl rfl rfl ?_
        refine x_iload_n (i := 3) (b := 191) dX2_poll_190 rfl rfl rfl ?_
        obtain ⟨hs, hF⟩ := ck_e hF
        refine x_iald (v := gI h 22 j2 x3) (b := 192) ak_22 dX2_poll_191 hs rfl rfl ?_
        refine x_aload_n (i := 1) (b := 193) dX2_poll_192 rfl rfl rfl ?_
        refine x_getI (v := gI h 10 x1 0) (b := 196) fk_X2_73 dX2_poll_193 (by decide) rfl rfl ?_
        refine x_icmp_ne (tgt := 221) (b := 199) dX2_poll_196 (by decide) rfl (fun hc => ?_) (fun hc => ?_)
        · replace hF := br_F hc hF
          exact x_dp (ls2 := [some (xr 2 0), some (xr 10 x1), none, some (xi x3)]) ⟨rfl, rfl, rfl, trivial⟩ (hr_221 x1 x3 h hL hF)
        · replace hF := br_T hc hF
          refine x_aload_n (i := 0) (b := 200) dX2_poll_199 rfl rfl rfl ?_
          refine x_aload_n (i := 0) (b := 201) dX2_poll_200 rfl rfl rfl ?_
          obtain ⟨j3, e_j3, hF⟩ := rf_e hF
          refine x_getR (v := some (0, j3)) (b := 204) fk_X2_43 dX2_poll_201 rfl e_j3 rfl ?_
          refine x_getL (j := j3) (t := (23, 0, true)) (b := 207) fk_X2_199 dX2_poll_204 rfl hL rfl rfl rfl ?_
          refine x_iload_n (i := 3) (b := 208) dX2_poll_207 rfl rfl rfl ?_
          obtain ⟨hs, hF⟩ := ck_e hF
          refine x_iald (v := gI h 23 j3 x3) (b := 209) ak_23 dX2_poll_208 hs rfl rfl ?_
          refine x_aload_n (i := 0) (b := 210) dX2_poll_209 rfl rfl rfl ?_
          obtain ⟨j4, e_j4, hF⟩ := rf_e hF
          refine x_getR (v := some (0, j4)) (b := 213) fk_X2_43 dX2_poll_210 rfl e_j4 rfl ?_
          refine x_getL (j := j4) (t := (24, 0, true)) (b := 216) fk_X2_202 dX2_poll_213 rfl hL rfl rfl rfl ?_
          refine x_iload_n (i := 3) (b := 217) dX2_poll_216 rfl rfl rfl ?_
          obtain ⟨hs, hF⟩ := ck_e hF
          refine x_iald (v := gI h 24 j4 x3) (b := 218) ak_24 dX2_poll_217 hs rfl rfl ?_
          obtain ⟨v5, h6, hq, hF⟩ := bd_e hF
          refine x_callV (as := [xi (gI h 23 j3 x3), xi (gI h 24 j4 x3)]) (rest := []) (b := 221) (c_X2_give (d + 2) n (gI h 23 j3 x3) (gI h 24 j4 x3) h _ hL hq) dX2_poll_218 cw_X2_174 ⟨_, _, rfl, Nat.le_of_ble_eq_true rfl⟩ rfl rfl (Nat.le_of_ble_eq_true rfl) ⟨Nat.le_refl _, Nat.le_refl _⟩ rfl (fun rv hh hp _ => ?_)
          obtain ⟨rfl, rfl, hL⟩ := hp
          exact x_dp (ls2 := [some (xr 2 0), some (xr 10 x1), none, some (xi x3)]) ⟨rfl, rfl, rfl, trivial⟩ (hr_221 x1 x3 h6 hL hF)
set_option maxHeartbeats 4000000 in
set_option maxRecDepth 100000 in
theorem t_X2_poll_8 (E : xE) (d : Nat) (rec : Rk) (n : Nat) (r : Int × Hp) (hr_159 : ∀ (x1 x3 : Int) (h : Hp), Lay h → rec 7 [x1, x3] h = some r → X E mX2_poll (d + 5) (0, 0) (0, 0) 159 [some (xr 2 0), some (xr 10 x1), none, some (xi x3)] [] h (PoV r)) (x1 x3 : Int) (h : Hp) (hL : Lay h) (hF : b_X2_poll_8 rec n x1 x3 h = some r) : X E mX2_poll (d + 5) (0, 0) (0, 0) 221 [some (xr 2 0), some (xr 10 x1), none, some (xi x3)] [] h (PoV r) := by
  unfold b_X2_poll_8 at hF
  obtain ⟨hs, hF⟩ := ck_e hF
  refine x_iinc (i := 3) (b := 224) (ls2 := [some (xr 2 0), some (xr 10 x1), none, some (xi (x3 + 1))]) dX2_poll_221 rfl (Nat.le_of_ble_eq_true rfl) hs rfl rfl ?_
  refine x_goto (tgt := 159) dX2_poll_224 (by decide) ?_
  exact x_dp (ls2 := [some (xr 2 0), some (xr 10 x1), none, some (xi (x3 + 1))]) ⟨rfl, rfl, rfl, trivial⟩ (hr_159 x1 (x3 + 1) h hL hF)
set_option maxHeartbeats 4000000 in
set_option maxRecDepth 100000 in
theorem u_X2_poll (E : xE) (d : Nat) (r : Int × Hp) : ∀ n : Nat, (∀ (x1 : Int) (h : Hp), Lay h → g_X2_poll n 0 [x1] h = some r → X E mX2_poll (d + 5) (0, 0) (0, 0) 0 [some (xr 2 0), some (xr 10 x1), none, none] [] h (PoV r)) ∧ (∀ (x1 x2 : Int) (h : Hp), Lay h → g_X2_poll n 1 [x1, x2] h = some r → X E mX2_poll (d + 5) (0, 0) (0, 0) 2 [some (xr 2 0), some (xr 10 x1), some (xi x2), none] [] h (PoV r)) ∧ (∀ (x1 x2 : Int) (h : Hp), Lay h → g_X2_poll n 2 [x1, x2] h = some r → X E mX2_poll (d + 5) (0, 0) (0, 0) 22 [some (xr 2 0), some (xr 10 x1), some (xi x2), none] [] h (PoV r)) ∧ (∀ (x1 x2 y0 y1 : Int) (h : Hp), Lay h → g_X2_poll n 3 [x1, x2, y0, y1] h = some r → X E mX2_poll (d + 5) (0, 0) (0, 0) 63 [some (xr 2 0), some (xr 10 x1), some (xi x2), none] [xi y0, xi y1, xr 30 0] h (PoV r)) ∧ (∀ (x1 x2 x3 : Int) (h : Hp), Lay h → g_X2_poll n 4 [x1, x2, x3] h = some r → X E mX2_poll (d + 5) (0, 0) (0, 0) 96 [some (xr 2 0), some (xr 10 x1), some (xr 9 x2), some (xi x3)] [] h (PoV r)) ∧ (∀ (x1 x2 x3 : Int) (h : Hp), Lay h → g_X2_poll n 5 [x1, x2, x3] h = some r → X E mX2_poll (d + 5) (0, 0) (0, 0) 151 [some (xr 2 0), some (xr 10 x1), some (xr 9 x2), some (xi x3)] [] h (PoV r)) ∧ (∀ (x1 : Int) (h : Hp), Lay h → g_X2_poll n 6 [x1] h = some r → X E mX2_poll (d + 5) (0, 0) (0, 0) 157 [some (xr 2 0), some (xr 10 x1), none, none] [] h (PoV r)) ∧ (∀ (x1 x3 : Int) (h : Hp), Lay h → g_X2_poll n 7 [x1, x3] h = some r → X E mX2_poll (d + 5) (0, 0) (0, 0) 159 [some (xr 2 0), some (xr 10 x1), none, some (xi x3)] [] h (PoV r)) ∧ (∀ (x1 x3 : Int) (h : Hp), Lay h → g_X2_poll n 8 [x1, x3] h = some r → X E mX2_poll (d + 5) (0, 0) (0, 0) 221 [some (xr 2 0), some (xr 10 x1), none, some (xi x3)] [] h (PoV r)) := by
  intro n
  induction n with
  | zero => exact ⟨fun _ _ _ hF => no_e (r := r) hF, fun _ _ _ _ hF => no_e (r := r) hF, fun _ _ _ _ hF => no_e (r := r) hF, fun _ _ _ _ _ _ hF => no_e (r := r) hF, fun _ _ _ _ _ hF => no_e (r := r) hF, fun _ _ _ _ _ hF => no_e (r := r) hF, fun _ _ _ hF => no_e (r := r) hF, fun _ _ _ _ hF => no_e (r := r) hF, fun _ _ _ _ hF => no_e (r := r) hF⟩
  | succ n ih => exact ⟨fun x1 h hL hF => t_X2_poll_0 E d (g_X2_poll n) n r ih.2.1 x1 h hL hF, fun x1 x2 h hL hF => t_X2_poll_1 E d (g_X2_poll n) n r ih.2.1 ih.2.2.1 x1 x2 h hL hF, fun x1 x2 h hL hF => t_X2_poll_2 E d (g_X2_poll n) n r ih.2.2.2.1 ih.2.2.2.2.1 x1 x2 h hL hF, fun x1 x2 y0 y1 h hL hF => t_X2_poll_3 E d (g_X2_poll n) n r ih.2.2.1 x1 x2 y0 y1 h hL hF, fun x1 x2 x3 h hL hF => t_X2_poll_4 E d (g_X2_poll n) n r ih.2.2.2.2.2.1 ih.2.2.2.2.2.2.1 x1 x2 x3 h hL hF, fun x1 x2 x3 h hL hF => t_X2_poll_5 E d (g_X2_poll n) n r ih.2.2.2.2.1 x1 x2 x3 h hL hF, fun x1 h hL hF => t_X2_poll_6 E d (g_X2_poll n) n r ih.2.2.2.2.2.2.2.1 x1 h hL hF, fun x1 x3 h hL hF => t_X2_poll_7 E d (g_X2_poll n) n r ih.2.2.2.2.2.2.2.2 x1 x3 h hL hF, fun x1 x3 h hL hF => t_X2_poll_8 E d (g_X2_poll n) n r ih.2.2.2.2.2.2.2.1 x1 x3 h hL hF⟩
theorem c_X2_poll (d n : Nat) (x1 : Int) (h : Hp) (r : Int × Hp) (hL : Lay h) (hF : f_X2_poll n x1 h = some r) : Sp mX2_poll (d + 5) (0, 0) [xr 2 0, xr 10 x1] h (PoV r) :=
  sp_of (by decide) rfl (Nat.le_of_ble_eq_true rfl) (ls := [some (xr 2 0), some (xr 10 x1), none, none]) rfl (fun E _ => (u_X2_poll E d r n).1 x1 h hL hF)
theorem dX7_readCell_0 : decode cX7_readCell 0 = .ok (.aload_n 0, 1) := by decide +kernel
theorem dX7_readCell_1 : decode cX7_readCell 1 = .ok (.iconst 0, 1) := by decide +kernel
theorem dX7_readCell_2 : decode cX7_readCell 2 = .ok (.aload_n 0, 1) := by decide +kernel
theorem dX7_readCell_3 : decode cX7_readCell 3 = .ok (.getfield 76, 3) := by decide +kernel
theorem dX7_readCell_6 : decode cX7_readCell 6 = .ok (.getfield 158, 3) := by decide +kernel
theorem dX7_readCell_9 : decode cX7_readCell 9 = .ok (.getfield 162, 3) := by decide +kernel
theorem dX7_readCell_12 : decode cX7_readCell 12 = .ok (.iconst 1, 1) := by decide +kernel
theorem dX7_readCell_13 : decode cX7_readCell 13 = .ok (.isub, 1) := by decide +kernel
theorem dX7_readCell_14 : decode cX7_readCell 14 = .ok (.invokevirtual 167, 3) := by decide +kernel
theorem dX7_readCell_17 : decode cX7_readCell 17 = .ok (.ifCond .ne 5, 3) := by decide +kernel
theorem dX7_readCell_20 : decode cX7_readCell 20 = .ok (.iconst 0, 1) := by decide +kernel
theorem dX7_readCell_21 : decode cX7_readCell 21 = .ok (.ireturn, 1) := by decide +kernel
theorem dX7_readCell_22 : decode cX7_readCell 22 = .ok (.aload_n 0, 1) := by decide +kernel
theorem dX7_readCell_23 : decode cX7_readCell 23 = .ok (.getfield 41, 3) := by decide +kernel
theorem dX7_readCell_26 : decode cX7_readCell 26 = .ok (.istore_n 1, 1) := by decide +kernel
theorem dX7_readCell_27 : decode cX7_readCell 27 = .ok (.aload_n 0, 1) := by decide +kernel
theorem dX7_readCell_28 : decode cX7_readCell 28 = .ok (.iconst 0, 1) := by decide +kernel
theorem dX7_readCell_29 : decode cX7_readCell 29 = .ok (.aload_n 0, 1) := by decide +kernel
theorem dX7_readCell_30 : decode cX7_readCell 30 = .ok (.getfield 76, 3) := by decide +kernel
theorem dX7_readCell_33 : decode cX7_readCell 33 = .ok (.getfield 158, 3) := by decide +kernel
theorem dX7_readCell_36 : decode cX7_readCell 36 = .ok (.getfield 170, 3) := by decide +kernel
theorem dX7_readCell_39 : decode cX7_readCell 39 = .ok (.iconst 1, 1) := by decide +kernel
theorem dX7_readCell_40 : decode cX7_readCell 40 = .ok (.isub, 1) := by decide +kernel
theorem dX7_readCell_41 : decode cX7_readCell 41 = .ok (.invokevirtual 167, 3) := by decide +kernel
theorem dX7_readCell_44 : decode cX7_readCell 44 = .ok (.ifCond .ne 5, 3) := by decide +kernel
theorem dX7_readCell_47 : decode cX7_readCell 47 = .ok (.iconst 0, 1) := by decide +kernel
theorem dX7_readCell_48 : decode cX7_readCell 48 = .ok (.ireturn, 1) := by decide +kernel
theorem dX7_readCell_49 : decode cX7_readCell 49 = .ok (.aload_n 0, 1) := by decide +kernel
theorem dX7_readCell_50 : decode cX7_readCell 50 = .ok (.aload_n 0, 1) := by decide +kernel
theorem dX7_readCell_51 : decode cX7_readCell 51 = .ok (.getfield 41, 3) := by decide +kernel
theorem dX7_readCell_54 : decode cX7_readCell 54 = .ok (.aload_n 0, 1) := by decide +kernel
theorem dX7_readCell_55 : decode cX7_readCell 55 = .ok (.getfield 76, 3) := by decide +kernel
theorem dX7_readCell_58 : decode cX7_readCell 58 = .ok (.getfield 158, 3) := by decide +kernel
theorem dX7_readCell_61 : decode cX7_readCell 61 = .ok (.getfield 162, 3) := by decide +kernel
theorem dX7_readCell_64 : decode cX7_readCell 64 = .ok (.imul, 1) := by decide +kernel
theorem dX7_readCell_65 : decode cX7_readCell 65 = .ok (.iload_n 1, 1) := by decide +kernel
theorem dX7_readCell_66 : decode cX7_readCell 66 = .ok (.iadd, 1) := by decide +kernel
theorem dX7_readCell_67 : decode cX7_readCell 67 = .ok (.putfield 41, 3) := by decide +kernel
theorem dX7_readCell_70 : decode cX7_readCell 70 = .ok (.iconst 1, 1) := by decide +kernel
theorem dX7_readCell_71 : decode cX7_readCell 71 = .ok (.ireturn, 1) := by decide +kernel
noncomputable def b_X7_readCell_0 (rec : Rk) (n : Nat) (h : Hp) : Option (Int × Hp) :=
  rf (gR h 7 0 1) 0 fun j1 =>
  ck (-2147483648 ≤ (gI h 9 j1 0) - 1 ∧ (gI h 9 j1 0) - 1 < 2147483648) <|
  bd (f_X7_readNumber n 0 ((gI h 9 j1 0) - 1) h) fun v2 h3 =>
  if v2 = 0 then (
    some (0, h3)
  ) else (
    lt (gI h3 7 0 11) fun z4 =>
    rf (gR h3 7 0 1) 0 fun j5 =>
    ck (-2147483648 ≤ (gI h3 9 j5 1) - 1 ∧ (gI h3 9 j5 1) - 1 < 2147483648) <|
    bd (f_X7_readNumber n 0 ((gI h3 9 j5 1) - 1) h3) fun v6 h7 =>
    if v6 = 0 then (
      some (0, h7)
    ) else (
      rf (gR h7 7 0 1) 0 fun j8 =>
      ck (-2147483648 ≤ (gI h7 7 0 11) * (gI h7 9 j8 0) ∧ (gI h7 7 0 11) * (gI h7 9 j8 0) < 2147483648) <|
      ck (-2147483648 ≤ ((gI h7 7 0 11) * (gI h7 9 j8 0)) + z4 ∧ ((gI h7 7 0 11) * (gI h7 9 j8 0)) + z4 < 2147483648) <|
      lt (sI h7 7 0 11 (((gI h7 7 0 11) * (gI h7 9 j8 0)) + z4)) fun h9 =>
      some (1, h9)
    )
  )
noncomputable def g_X7_readCell (n : Nat) : Rk := Nat.rec (motive := fun _ => Rk) (fun _ _ _ => none) (fun n rec k l h => if k = 0 then b_X7_readCell_0 rec n  h else none) n
noncomputable def f_X7_readCell (n : Nat) (h : Hp) : Option (Int × Hp) := g_X7_readCell n 0 [] h
set_option maxHeartbeats 4000000 in
set_option maxRecDepth 100000 in
theorem t_X7_readCell_0 (E : xE) (d : Nat) (rec : Rk) (n : Nat) (r : Int × Hp) (h : Hp) (hL : Lay h) (hF : b_X7_readCell_0 rec n  h = some r) : X E mX7_readCell (d + 3) (0, 0) (0, 0) 0 [some (xr 7 0), none] [] h (PoI r) := by
  unfold b_X7_readCell_0 at hF
  refine x_aload_n (i := 0) (b := 1) dX7_readCell_0 rfl rfl rfl ?_
  refine x_iconst (n := 0) (b := 2) dX7_readCell_1 (by decide) rfl ?_
  refine x_aload_n (i := 0) (b := 3) dX7_readCell_2 rfl rfl rfl ?_
  obtain ⟨j1, e_j1, hF⟩ := rf_e hF
  refine x_getR (v := some (0, j1)) (b := 6) fk_X7_76 dX7_readCell_3 rfl e_j1 rfl ?_
  refine x_getL (j := j1) (t := (9, 0, true)) (b := 9) fk_X7_158 dX7_readCell_6 rfl hL rfl rfl rfl ?_
  refine x_getI (v := gI h 9 j1 0) (b := 12) fk_X7_162 dX7_readCell_9 (by decide) rfl rfl ?_
  refine x_iconst (n := 1) (b := 13) dX7_readCell_12 (by decide) rfl ?_
  obtain ⟨hs, hF⟩ := ck_e hF
  refine x_isub (b := 14) dX7_readCell_13 hs rfl ?_
  obtain ⟨v2, h3, hq, hF⟩ := bd_e hF
  refine x_callV (as := [xi 0, xi ((gI h 9 j1 0) - 1)]) (rest := []) (b := 17) (c_X7_readNumber d n 0 ((gI h 9 j1 0) - 1) h _ hL hq) dX7_readCell_14 cw_X7_167 ⟨_, _, rfl, Nat.le_of_ble_eq_true rfl⟩ rfl rfl (Nat.le_of_ble_eq_true rfl) ⟨Nat.le_refl _, Nat.le_refl _⟩ rfl (fun rv hh hp _ => ?_)
  obtain ⟨rfl, rfl, hL⟩ := hp
  refine x_if_ne (tgt := 22) (b := 20) dX7_readCell_17 (by decide) rfl (fun hc => ?_) (fun hc => ?_)
  · replace hF := br_F hc hF
    refine x_aload_n (i := 0) (b := 23) dX7_readCell_22 rfl rfl rfl ?_
    refine x_getI (v := gI h3 7 0 11) (b := 26) fk_X7_41 dX7_readCell_23 (by decide) rfl rfl ?_
    obtain ⟨z4, e_z4, hF⟩ := lt_e hF
    refine x_eq (y := z4) e_z4 ?_
    refine x_istore_n (i := 1) (b := 27) (ls2 := [some (xr 7 0), some (xi z4)]) dX7_readCell_26 rfl (Nat.le_of_ble_eq_true rfl) rfl rfl ?_
    refine x_aload_n (i := 0) (b := 28) dX7_readCell_27 rfl rfl rfl ?_
    refine x_iconst (n := 0) (b := 29) dX7_readCell_28 (by decide) rfl ?_
    refine x_aload_n (i := 0) (b := 30) dX7_readCell_29 rfl rfl rfl ?_
    obtain ⟨j5, e_j5, hF⟩ := rf_e hF
    refine x_getR (v := some (0, j5)) (b := 33) fk_X7_76 dX7_readCell_30 rfl e_j5 rfl ?_
    refine x_getL (j := j5) (t := (9, 0, true)) (b := 36) fk_X7_158 dX7_readCell_33 rfl hL rfl rfl rfl ?_
    refine x_getI (v := gI h3 9 j5 1) (b := 39) fk_X7_170 dX7_readCell_36 (by decide) rfl rfl ?_
    refine x_iconst (n := 1) (b := 40) dX7_readCell_39 (by decide) rfl ?_
    obtain ⟨hs, hF⟩ := ck_e hF
    refine x_isub (b := 41) dX7_readCell_40 hs rfl ?_
    obtain ⟨v6, h7, hq, hF⟩ := bd_e hF
    refine x_callV (as := [xi 0, xi ((gI h3 9 j5 1) - 1)]) (rest := []) (b := 44) (c_X7_readNumber d n 0 ((gI h3 9 j5 1) - 1) h3 _ hL hq) dX7_readCell_41 cw_X7_167 ⟨_, _, rfl, Nat.le_of_ble_eq_true rfl⟩ rfl rfl (Nat.le_of_ble_eq_true rfl) ⟨Nat.le_refl _, Nat.le_refl _⟩ rfl (fun rv hh hp _ => ?_)
    obtain ⟨rfl, rfl, hL⟩ := hp
    refine x_if_ne (tgt := 49) (b := 47) dX7_readCell_44 (by decide) rfl (fun hc => ?_) (fun hc => ?_)
    · replace hF := br_F hc hF
      refine x_aload_n (i := 0) (b := 50) dX7_readCell_49 rfl rfl rfl ?_
      refine x_aload_n (i := 0) (b := 51) dX7_readCell_50 rfl rfl rfl ?_
      refine x_getI (v := gI h7 7 0 11) (b := 54) fk_X7_41 dX7_readCell_51 (by decide) rfl rfl ?_
      refine x_aload_n (i := 0) (b := 55) dX7_readCell_54 rfl rfl rfl ?_
      obtain ⟨j8, e_j8, hF⟩ := rf_e hF
      refine x_getR (v := some (0, j8)) (b := 58) fk_X7_76 dX7_readCell_55 rfl e_j8 rfl ?_
      refine x_getL (j := j8) (t := (9, 0, true)) (b := 61) fk_X7_158 dX7_readCell_58 rfl hL rfl rfl rfl ?_
      refine x_getI (v := gI h7 9 j8 0) (b := 64) fk_X7_162 dX7_readCell_61 (by decide) rfl rfl ?_
      obtain ⟨hs, hF⟩ := ck_e hF
      refine x_imul (b := 65) dX7_readCell_64 hs rfl ?_
      refine x_iload_n (i := 1) (b := 66) dX7_readCell_65 rfl rfl rfl ?_
      obtain ⟨hs, hF⟩ := ck_e hF
      refine x_iadd (b := 67) dX7_readCell_66 hs rfl ?_
      refine x_putI (b := 70) fk_X7_41 dX7_readCell_67 rfl rfl 11 rfl ?_
      obtain ⟨h9, e_h9, hF⟩ := lt_e hF
      refine x_hp (h2 := h9) e_h9 ?_
      replace hL : Lay h9 := by rw [← e_h9]; exact hL
      refine x_iconst (n := 1) (b := 71) dX7_readCell_70 (by decide) rfl ?_
      refine x_zreturn dX7_readCell_71 rfl ⟨Nat.le_refl _, Nat.le_refl _⟩ (by decide) ?_
      cases hF
      exact ⟨rfl, rfl, hL⟩
    · replace hF := br_T hc hF
      refine x_iconst (n := 0) (b := 48) dX7_readCell_47 (by decide) rfl ?_
      refine x_zreturn dX7_readCell_48 rfl ⟨Nat.le_refl _, Nat.le_refl _⟩ (by decide) ?_
      cases hF
      exact ⟨rfl, rfl, hL⟩
  · replace hF := br_T hc hF
    refine x_iconst (n := 0) (b := 21) dX7_readCell_20 (by decide) rfl ?_
    refine x_zreturn dX7_readCell_21 rfl ⟨Nat.le_refl _, Nat.le_refl _⟩ (by decide) ?_
    cases hF
    exact ⟨rfl, rfl, hL⟩
set_option maxHeartbeats 4000000 in
set_option maxRecDepth 100000 in
theorem u_X7_readCell (E : xE) (d : Nat) (r : Int × Hp) : ∀ n : Nat, (∀ (h : Hp), Lay h → g_X7_readCell n 0 [] h = some r → X E mX7_readCell (d + 3) (0, 0) (0, 0) 0 [some (xr 7 0), none] [] h (PoI r)) := by
  intro n
  induction n with
  | zero => exact fun _ _ hF => no_e (r := r) hF
  | succ n ih => exact fun h hL hF => t_X7_readCell_0 E d (g_X7_readCell n) n r   h hL hF
theorem c_X7_readCell (d n : Nat) (h : Hp) (r : Int × Hp) (hL : Lay h) (hF : f_X7_readCell n  h = some r) : Sp mX7_readCell (d + 3) (0, 0) [xr 7 0] h (PoI r) :=
  sp_of (by decide) rfl (Nat.le_of_ble_eq_true rfl) (ls := [some (xr 7 0), none]) rfl (fun E _ => (u_X7_readCell E d r n)  h hL hF)
theorem dX7_readCellOfWater_0 : decode cX7_readCellOfWater 0 = .ok (.aload_n 0, 1) := by decide +kernel
theorem dX7_readCellOfWater_1 : decode cX7_readCellOfWater 1 = .ok (.invokevirtual 173, 3) := by decide +kernel
theorem dX7_readCellOfWater_4 : decode cX7_readCellOfWater 4 = .ok (.ifCond .ne 5, 3) := by decide +kernel
theorem dX7_readCellOfWater_7 : decode cX7_readCellOfWater 7 = .ok (.iconst 0, 1) := by decide +kernel
theorem dX7_readCellOfWater_8 : decode cX7_readCellOfWater 8 = .ok (.ireturn, 1) := by decide +kernel
theorem dX7_readCellOfWater_9 : decode cX7_readCellOfWater 9 = .ok (.aload_n 0, 1) := by decide +kernel
theorem dX7_readCellOfWater_10 : decode cX7_readCellOfWater 10 = .ok (.getfield 76, 3) := by decide +kernel
theorem dX7_readCellOfWater_13 : decode cX7_readCellOfWater 13 = .ok (.getfield 158, 3) := by decide +kernel
theorem dX7_readCellOfWater_16 : decode cX7_readCellOfWater 16 = .ok (.aload_n 0, 1) := by decide +kernel
theorem dX7_readCellOfWater_17 : decode cX7_readCellOfWater 17 = .ok (.getfield 41, 3) := by decide +kernel
theorem dX7_readCellOfWater_20 : decode cX7_readCellOfWater 20 = .ok (.invokevirtual 176, 3) := by decide +kernel
theorem dX7_readCellOfWater_23 : decode cX7_readCellOfWater 23 = .ok (.ifCond .eq 15, 3) := by decide +kernel
theorem dX7_readCellOfWater_26 : decode cX7_readCellOfWater 26 = .ok (.aload_n 0, 1) := by decide +kernel
theorem dX7_readCellOfWater_27 : decode cX7_readCellOfWater 27 = .ok (.iconst 5, 1) := by decide +kernel
theorem dX7_readCellOfWater_28 : decode cX7_readCellOfWater 28 = .ok (.aload_n 0, 1) := by decide +kernel
theorem dX7_readCellOfWater_29 : decode cX7_readCellOfWater 29 = .ok (.getfield 44, 3) := by decide +kernel
theorem dX7_readCellOfWater_32 : decode cX7_readCellOfWater 32 = .ok (.invokevirtual 149, 3) := by decide +kernel
theorem dX7_readCellOfWater_35 : decode cX7_readCellOfWater 35 = .ok (.ifCond .eq 7, 3) := by decide +kernel
theorem dX7_readCellOfWater_38 : decode cX7_readCellOfWater 38 = .ok (.iconst 1, 1) := by decide +kernel
theorem dX7_readCellOfWater_39 : decode cX7_readCellOfWater 39 = .ok (.goto 4, 3) := by decide +kernel
theorem dX7_readCellOfWater_42 : decode cX7_readCellOfWater 42 = .ok (.iconst 0, 1) := by decide +kernel
theorem dX7_readCellOfWater_43 : decode cX7_readCellOfWater 43 = .ok (.ireturn, 1) := by decide +kernel
noncomputable def b_X7_readCellOfWater_0 (rec : Rk) (n : Nat) (h : Hp) : Option (Int × Hp) :=
  bd (f_X7_readCell n h) fun v1 h2 =>
  if v1 = 0 then (
    some (0, h2)
  ) else (
    rf (gR h2 7 0 1) 0 fun j3 =>
    bd (f_X9_isLand n j3 (gI h2 7 0 11) h2) fun v4 h5 =>
    if v4 = 0 then (
      rec 1 [] h5
    ) else (
      bd (f_X7_wrong n 5 (gI h5 7 0 12) h5) fun v6 h7 =>
      if v6 = 0 then (
        some (0, h7)
      ) else (
        rec 1 [] h7
      )
    )
  )
noncomputable def b_X7_readCellOfWater_1 (rec : Rk) (n : Nat) (h : Hp) : Option (Int × Hp) :=
  some (1, h)
noncomputable def g_X7_readCellOfWater (n : Nat) : Rk := Nat.rec (motive := fun _ => Rk) (fun _ _ _ => none) (fun n rec k l h => if k = 0 then b_X7_readCellOfWater_0 rec n  h else if k = 1 then b_X7_readCellOfWater_1 rec n  h else none) n
noncomputable def f_X7_readCellOfWater (n : Nat) (h : Hp) : Option (Int × Hp) := g_X7_readCellOfWater n 0 [] h
set_option maxHeartbeats 4000000 in
set_option maxRecDepth 100000 in
theorem t_X7_readCellOfWater_0 (E : xE) (d : Nat) (rec : Rk) (n : Nat) (r : Int × Hp) (hr_38 : ∀ (h : Hp), Lay h → rec 1 [] h = some r → X E mX7_readCellOfWater (d + 4) (0, 0) (0, 0) 38 [none] [] h (PoI r)) (h : Hp) (hL : Lay h) (hF : b_X7_readCellOfWater_0 rec n  h = some r) : X E mX7_readCellOfWater (d + 4) (0, 0) (0, 0) 0 [some (xr 7 0)] [] h (PoI r) := by
  unfold b_X7_readCellOfWater_0 at hF
  refine x_aload_n (i := 0) (b := 1) dX7_readCellOfWater_0 rfl rfl rfl ?_
  obtain ⟨v1, h2, hq, hF⟩ := bd_e hF
  refine x_callV (as := []) (rest := []) (b := 4) (c_X7_readCell d n h _ hL hq) dX7_readCellOfWater_1 cw_X7_173 ⟨_, _, rfl, Nat.le_of_ble_eq_true rfl⟩ rfl rfl (Nat.le_of_ble_eq_true rfl) ⟨Nat.le_refl _, Nat.le_refl _⟩ rfl (fun rv hh hp _ => ?_)
  obtain ⟨rfl, rfl, hL⟩ := hp
  refine x_if_ne (tgt := 9) (b := 7) dX7_readCellOfWater_4 (by decide) rfl (fun hc => ?_) (fun hc => ?_)
  · replace hF := br_F hc hF
    refine x_aload_n (i := 0) (b := 10) dX7_readCellOfWater_9 rfl rfl rfl ?_
    obtain ⟨j3, e_j3, hF⟩ := rf_e hF
    refine x_getR (v := some (0, j3)) (b := 13) fk_X7_76 dX7_readCellOfWater_10 rfl e_j3 rfl ?_
    refine x_getL (j := j3) (t := (9, 0, true)) (b := 16) fk_X7_158 dX7_readCellOfWater_13 rfl hL rfl rfl rfl ?_
    refine x_aload_n (i := 0) (b := 17) dX7_readCellOfWater_16 rfl rfl rfl ?_
    refine x_getI (v := gI h2 7 0 11) (b := 20) fk_X7_41 dX7_readCellOfWater_17 (by decide) rfl rfl ?_
    obtain ⟨v4, h5, hq, hF⟩ := bd_e hF
    refine x_callV (as := [xi (gI h2 7 0 11)]) (rest := []) (b := 23) (c_X9_isLand (d + 1) n j3 (gI h2 7 0 11) h2 _ hL hq) dX7_readCellOfWater_20 cw_X7_176 ⟨_, _, rfl, Nat.le_of_ble_eq_true rfl⟩ rfl rfl (Nat.le_of_ble_eq_true rfl) ⟨Nat.le_refl _, Nat.le_refl _⟩ rfl (fun rv hh hp _ => ?_)
    obtain ⟨rfl, rfl, hL⟩ := hp
    refine x_if_eq (tgt := 38) (b := 26) dX7_readCellOfWater_23 (by decide) rfl (fun hc => ?_) (fun hc => ?_)
    · replace hF := br_T hc hF
      exact x_dp (ls2 := [none]) trivial (hr_38  h5 hL hF)
    · replace hF := br_F hc hF
      refine x_aload_n (i := 0) (b := 27) dX7_readCellOfWater_26 rfl rfl rfl ?_
      refine x_iconst (n := 5) (b := 28) dX7_readCellOfWater_27 (by decide) rfl ?_
      refine x_aload_n (i := 0) (b := 29) dX7_readCellOfWater_28 rfl rfl rfl ?_
      refine x_getI (v := gI h5 7 0 12) (b := 32) fk_X7_44 dX7_readCellOfWater_29 (by decide) rfl rfl ?_
      obtain ⟨v6, h7, hq, hF⟩ := bd_e hF
      refine x_callV (as := [xi 5, xi (gI h5 7 0 12)]) (rest := []) (b := 35) (c_X7_wrong (d + 2) n 5 (gI h5 7 0 12) h5 _ hL hq) dX7_readCellOfWater_32 cw_X7_149 ⟨_, _, rfl, Nat.le_of_ble_eq_true rfl⟩ rfl rfl (Nat.le_of_ble_eq_true rfl) ⟨Nat.le_refl _, Nat.le_refl _⟩ rfl (fun rv hh hp _ => ?_)
      obtain ⟨rfl, rfl, hL⟩ := hp
      refine x_if_eq (tgt := 42) (b := 38) dX7_readCellOfWater_35 (by decide) rfl (fun hc => ?_) (fun hc => ?_)
      · replace hF := br_T hc hF
        refine x_iconst (n := 0) (b := 43) dX7_readCellOfWater_42 (by decide) rfl ?_
        refine x_zreturn dX7_readCellOfWater_43 rfl ⟨Nat.le_refl _, Nat.le_refl _⟩ (by decide) ?_
        cases hF
        exact ⟨rfl, rfl, hL⟩
      · replace hF := br_F hc hF
        exact x_dp (ls2 := [none]) trivial (hr_38  h7 hL hF)
  · replace hF := br_T hc hF
    refine x_iconst (n := 0) (b := 8) dX7_readCellOfWater_7 (by decide) rfl ?_
    refine x_zreturn dX7_readCellOfWater_8 rfl ⟨Nat.le_refl _, Nat.le_refl _⟩ (by decide) ?_
    cases hF
    exact ⟨rfl, rfl, hL⟩
set_option maxHeartbeats 4000000 in
set_option maxRecDepth 100000 in
theorem t_X7_readCellOfWater_1 (E : xE) (d : Nat) (rec : Rk) (n : Nat) (r : Int × Hp) (h : Hp) (hL : Lay h) (hF : b_X7_readCellOfWater_1 rec n  h = some r) : X E mX7_readCellOfWater (d + 4) (0, 0) (0, 0) 38 [none] [] h (PoI r) := by
  unfold b_X7_readCellOfWater_1 at hF
  refine x_iconst (n := 1) (b := 39) dX7_readCellOfWater_38 (by decide) rfl ?_
  refine x_goto (tgt := 43) dX7_readCellOfWater_39 (by decide) ?_
  refine x_zreturn dX7_readCellOfWater_43 rfl ⟨Nat.le_refl _, Nat.le_refl _⟩ (by decide) ?_
  cases hF
  exact ⟨rfl, rfl, hL⟩
set_option maxHeartbeats 4000000 in
set_option maxRecDepth 100000 in
theorem u_X7_readCellOfWater (E : xE) (d : Nat) (r : Int × Hp) : ∀ n : Nat, (∀ (h : Hp), Lay h → g_X7_readCellOfWater n 0 [] h = some r → X E mX7_readCellOfWater (d + 4) (0, 0) (0, 0) 0 [some (xr 7 0)] [] h (PoI r)) ∧ (∀ (h : Hp), Lay h → g_X7_readCellOfWater n 1 [] h = some r → X E mX7_readCellOfWater (d + 4) (0, 0) (0, 0) 38 [none] [] h (PoI r)) := by
  intro n
  induction n with
  | zero => exact ⟨fun _ _ hF => no_e (r := r) hF, fun _ _ hF => no_e (r := r) hF⟩
  | succ n ih => exact ⟨fun h hL hF => t_X7_readCellOfWater_0 E d (g_X7_readCellOfWater n) n r ih.2  h hL hF, fun h hL hF => t_X7_readCellOfWater_1 E d (g_X7_readCellOfWater n) n r   h hL hF⟩
theorem c_X7_readCellOfWater (d n : Nat) (h : Hp) (r : Int × Hp) (hL : Lay h) (hF : f_X7_readCellOfWater n  h = some r) : Sp mX7_readCellOfWater (d + 4) (0, 0) [xr 7 0] h (PoI r) :=
  sp_of (by decide) rfl (Nat.le_of_ble_eq_true rfl) (ls := [some (xr 7 0)]) rfl (fun E _ => (u_X7_readCellOfWater E d r n).1  h hL hF)
theorem dX7_readExpression_0 : decode cX7_readExpression 0 = .ok (.aload_n 1, 1) := by decide +kernel
theorem dX7_readExpression_1 : decode cX7_readExpression 1 = .ok (.aload_n 0, 1) := by decide +kernel
theorem dX7_readExpression_2 : decode cX7_readExpression 2 = .ok (.getfield 76, 3) := by decide +kernel
theorem dX7_readExpression_5 : decode cX7_readExpression 5 = .ok (.getfield 313, 3) := by decide +kernel
theorem dX7_readExpression_8 : decode cX7_readExpression 8 = .ok (.getfield 317, 3) := by decide +kernel
theorem dX7_readExpression_11 : decode cX7_readExpression 11 = .ok (.putfield 318, 3) := by decide +kernel
theorem dX7_readExpression_14 : decode cX7_readExpression 14 = .ok (.aload_n 0, 1) := by decide +kernel
theorem dX7_readExpression_15 : decode cX7_readExpression 15 = .ok (.iconst 0, 1) := by decide +kernel
theorem dX7_readExpression_16 : decode cX7_readExpression 16 = .ok (.putfield 56, 3) := by decide +kernel
theorem dX7_readExpression_19 : decode cX7_readExpression 19 = .ok (.aload_n 0, 1) := by decide +kernel
theorem dX7_readExpression_20 : decode cX7_readExpression 20 = .ok (.iconst 0, 1) := by decide +kernel
theorem dX7_readExpression_21 : decode cX7_readExpression 21 = .ok (.putfield 59, 3) := by decide +kernel
theorem dX7_readExpression_24 : decode cX7_readExpression 24 = .ok (.aload_n 0, 1) := by decide +kernel
theorem dX7_readExpression_25 : decode cX7_readExpression 25 = .ok (.iconst 1, 1) := by decide +kernel
theorem dX7_readExpression_26 : decode cX7_readExpression 26 = .ok (.putfield 65, 3) := by decide +kernel
theorem dX7_readExpression_29 : decode cX7_readExpression 29 = .ok (.iconst 0, 1) := by decide +kernel
theorem dX7_readExpression_30 : decode cX7_readExpression 30 = .ok (.istore_n 2, 1) := by decide +kernel
theorem dX7_readExpression_31 : decode cX7_readExpression 31 = .ok (.iload_n 2, 1) := by decide +kernel
theorem dX7_readExpression_32 : decode cX7_readExpression 32 = .ok (.sipush 800, 3) := by decide +kernel
theorem dX7_readExpression_35 : decode cX7_readExpression 35 = .ok (.if_icmp .gt 53, 3) := by decide +kernel
theorem dX7_readExpression_38 : decode cX7_readExpression 38 = .ok (.aload_n 0, 1) := by decide +kernel
theorem dX7_readExpression_39 : decode cX7_readExpression 39 = .ok (.getfield 65, 3) := by decide +kernel
theorem dX7_readExpression_42 : decode cX7_readExpression 42 = .ok (.ifCond .ne 10, 3) := by decide +kernel
theorem dX7_readExpression_45 : decode cX7_readExpression 45 = .ok (.aload_n 0, 1) := by decide +kernel
theorem dX7_readExpression_46 : decode cX7_readExpression 46 = .ok (.invokevirtual 321, 3) := by decide +kernel
theorem dX7_readExpression_49 : decode cX7_readExpression 49 = .ok (.ifCond .eq 39, 3) := by decide +kernel
theorem dX7_readExpression_52 : decode cX7_readExpression 52 = .ok (.aload_n 0, 1) := by decide +kernel
theorem dX7_readExpression_53 : decode cX7_readExpression 53 = .ok (.getfield 65, 3) := by decide +kernel
theorem dX7_readExpression_56 : decode cX7_readExpression 56 = .ok (.ifCond .eq 13, 3) := by decide +kernel
theorem dX7_readExpression_59 : decode cX7_readExpression 59 = .ok (.aload_n 0, 1) := by decide +kernel
theorem dX7_readExpression_60 : decode cX7_readExpression 60 = .ok (.invokevirtual 324, 3) := by decide +kernel
theorem dX7_readExpression_63 : decode cX7_readExpression 63 = .ok (.ifCond .ne 15, 3) := by decide +kernel
theorem dX7_readExpression_66 : decode cX7_readExpression 66 = .ok (.goto 10, 3) := by decide +kernel
theorem dX7_readExpression_69 : decode cX7_readExpression 69 = .ok (.aload_n 0, 1) := by decide +kernel
theorem dX7_readExpression_70 : decode cX7_readExpression 70 = .ok (.invokevirtual 327, 3) := by decide +kernel
theorem dX7_readExpression_73 : decode cX7_readExpression 73 = .ok (.ifCond .ne 5, 3) := by decide +kernel
theorem dX7_readExpression_76 : decode cX7_readExpression 76 = .ok (.iconst 0, 1) := by decide +kernel
theorem dX7_readExpression_77 : decode cX7_readExpression 77 = .ok (.ireturn, 1) := by decide +kernel
theorem dX7_readExpression_78 : decode cX7_readExpression 78 = .ok (.aload_n 0, 1) := by decide +kernel
theorem dX7_readExpression_79 : decode cX7_readExpression 79 = .ok (.invokevirtual 89, 3) := by decide +kernel
theorem dX7_readExpression_82 : decode cX7_readExpression 82 = .ok (.iinc 2 1, 3) := by decide +kernel
theorem dX7_readExpression_85 : decode cX7_readExpression 85 = .ok (.goto (-54), 3) := by decide +kernel
theorem dX7_readExpression_88 : decode cX7_readExpression 88 = .ok (.aload_n 0, 1) := by decide +kernel
theorem dX7_readExpression_89 : decode cX7_readExpression 89 = .ok (.getfield 59, 3) := by decide +kernel
theorem dX7_readExpression_92 : decode cX7_readExpression 92 = .ok (.ifCond .le 13, 3) := by decide +kernel
theorem dX7_readExpression_95 : decode cX7_readExpression 95 = .ok (.aload_n 0, 1) := by decide +kernel
theorem dX7_readExpression_96 : decode cX7_readExpression 96 = .ok (.iconst 1, 1) := by decide +kernel
theorem dX7_readExpression_97 : decode cX7_readExpression 97 = .ok (.aload_n 0, 1) := by decide +kernel
theorem dX7_readExpression_98 : decode cX7_readExpression 98 = .ok (.getfield 29, 3) := by decide +kernel
theorem dX7_readExpression_101 : decode cX7_readExpression 101 = .ok (.invokevirtual 149, 3) := by decide +kernel
theorem dX7_readExpression_104 : decode cX7_readExpression 104 = .ok (.ireturn, 1) := by decide +kernel
theorem dX7_readExpression_105 : decode cX7_readExpression 105 = .ok (.aload_n 0, 1) := by decide +kernel
theorem dX7_readExpression_106 : decode cX7_readExpression 106 = .ok (.iconst 1, 1) := by decide +kernel
theorem dX7_readExpression_107 : decode cX7_readExpression 107 = .ok (.invokevirtual 330, 3) := by decide +kernel
theorem dX7_readExpression_110 : decode cX7_readExpression 110 = .ok (.aload_n 1, 1) := by decide +kernel
theorem dX7_readExpression_111 : decode cX7_readExpression 111 = .ok (.aload_n 0, 1) := by decide +kernel
theorem dX7_readExpression_112 : decode cX7_readExpression 112 = .ok (.getfield 76, 3) := by decide +kernel
theorem dX7_readExpression_115 : decode cX7_readExpression 115 = .ok (.getfield 313, 3) := by decide +kernel
theorem dX7_readExpression_118 : decode cX7_readExpression 118 = .ok (.getfield 317, 3) := by decide +kernel
theorem dX7_readExpression_121 : decode cX7_readExpression 121 = .ok (.putfield 333, 3) := by decide +kernel
theorem dX7_readExpression_124 : decode cX7_readExpression 124 = .ok (.iconst 1, 1) := by decide +kernel
theorem dX7_readExpression_125 : decode cX7_readExpression 125 = .ok (.ireturn, 1) := by decide +kernel
noncomputable def b_X7_readExpression_0 (rec : Rk) (n : Nat) (x1 : Int) (h : Hp) : Option (Int × Hp) :=
  rf (gR h 7 0 1) 0 fun j1 =>
  lt (sI h 4 x1 8 (gI h 1 j1 2)) fun h2 =>
  lt (sI h2 7 0 15 0) fun h3 =>
  lt (sI h3 7 0 16 0) fun h4 =>
  lt (sI h4 7 0 18 1) fun h5 =>
  rec 1 [x1, 0] h5
noncomputable def b_X7_readExpression_1 (rec : Rk) (n : Nat) (x1 x2 : Int) (h : Hp) : Option (Int × Hp) :=
  if 800 < x2 then (
    rec 4 [x1] h
  ) else (
    if (gI h 7 0 18) = 0 then (
      bd (f_X7_goesOn n h) fun v1 h2 =>
      if v1 = 0 then (
        rec 4 [x1] h2
      ) else (
        rec 2 [x1, x2] h2
      )
    ) else (
      rec 2 [x1, x2] h
    )
  )
noncomputable def b_X7_readExpression_2 (rec : Rk) (n : Nat) (x1 x2 : Int) (h : Hp) : Option (Int × Hp) :=
  if (gI h 7 0 18) = 0 then (
    bd (f_X7_takeSign n h) fun v1 h2 =>
    if v1 = 0 then (
      some (0, h2)
    ) else (
      rec 3 [x1, x2] h2
    )
  ) else (
    bd (f_X7_takePart n h) fun v3 h4 =>
    if v3 = 0 then (
      some (0, h4)
    ) else (
      rec 3 [x1, x2] h4
    )
  )
noncomputable def b_X7_readExpression_3 (rec : Rk) (n : Nat) (x1 x2 : Int) (h : Hp) : Option (Int × Hp) :=
  bd (f_X7_advance n h) fun v1 h2 =>
  ck (-2147483648 ≤ x2 + 1 ∧ x2 + 1 < 2147483648) <|
  rec 1 [x1, x2 + 1] h2
noncomputable def b_X7_readExpression_4 (rec : Rk) (n : Nat) (x1 : Int) (h : Hp) : Option (Int × Hp) :=
  if (gI h 7 0 16) ≤ 0 then (
    bd (f_X7_release n 1 h) fun v1 h2 =>
    rf (gR h2 7 0 1) 0 fun j3 =>
    lt (sI h2 4 x1 9 (gI h2 1 j3 2)) fun h4 =>
    some (1, h4)
  ) else (
    bd (f_X7_wrong n 1 (gI h 7 0 7) h) fun v5 h6 =>
    ck (0 ≤ v5 ∧ v5 < 2) <|
    some (v5, h6)
  )
noncomputable def g_X7_readExpression (n : Nat) : Rk := Nat.rec (motive := fun _ => Rk) (fun _ _ _ => none) (fun n rec k l h => if k = 0 then b_X7_readExpression_0 rec n (l.getD 0 0) h else if k = 1 then b_X7_readExpression_1 rec n (l.getD 0 0) (l.getD 1 0) h else if k = 2 then b_X7_readExpression_2 rec n (l.getD 0 0) (l.getD 1 0) h else if k = 3 then b_X7_readExpression_3 rec n (l.getD 0 0) (l.getD 1 0) h else if k = 4 then b_X7_readExpression_4 rec n (l.getD 0 0) h else none) n
noncomputable def f_X7_readExpression (n : Nat) (x1 : Int) (h : Hp) : Option (Int × Hp) := g_X7_readExpression n 0 [x1] h
set_option maxHeartbeats 4000000 in
set_option maxRecDepth 100000 in
theorem t_X7_readExpression_0 (E : xE) (d : Nat) (rec : Rk) (n : Nat) (r : Int × Hp) (hr_31 : ∀ (x1 x2 : Int) (h : Hp), Lay h → rec 1 [x1, x2] h = some r → X E mX7_readExpression (d + 4) (0, 0) (0, 0) 31 [some (xr 7 0), some (xr 4 x1), some (xi x2)] [] h (PoI r)) (x1 : Int) (h : Hp) (hL : Lay h) (hF : b_X7_readExpression_0 rec n x1 h = some r) : X E mX7_readExpression (d + 4) (0, 0) (0, 0) 0 [some (xr 7 0), some (xr 4 x1), none] [] h (PoI r) := by
  unfold b_X7_readExpression_0 at hF
  refine x_aload_n (i := 1) (b := 1) dX7_readExpression_0 rfl rfl rfl ?_
  refine x_aload_n (i := 0) (b := 2) dX7_readExpression_1 rfl rfl rfl ?_
  obtain ⟨j1, e_j1, hF⟩ := rf_e hF
  refine x_getR (v := some (0, j1)) (b := 5) fk_X7_76 dX7_readExpression_2 rfl e_j1 rfl ?_
  refine x_getL (j := j1) (t := (1, 0, true)) (b := 8) fk_X7_313 dX7_readExpression_5 rfl hL rfl rfl rfl ?_
  refine x_getI (v := gI h 1 j1 2) (b := 11) fk_X7_317 dX7_readExpression_8 (by decide) rfl rfl ?_
  refine x_putI (b := 14) fk_X7_318 dX7_readExpression_11 rfl rfl 8 rfl ?_
  obtain ⟨h2, e_h2, hF⟩ := lt_e hF
  refine x_hp (h2 := h2) e_h2 ?_
  replace hL : Lay h2 := by rw [← e_h2]; exact hL
  refine x_aload_n (i := 0) (b := 15) dX7_readExpression_14 rfl rfl rfl ?_
  refine x_iconst (n := 0) (b := 16) dX7_readExpression_15 (by decide) rfl ?_
  refine x_putI (b := 19) fk_X7_56 dX7_readExpression_16 rfl rfl 15 rfl ?_
  obtain ⟨h3, e_h3, hF⟩ := lt_e hF
  refine x_hp (h2 := h3) e_h3 ?_
  replace hL : Lay h3 := by rw [← e_h3]; exact hL
  refine x_aload_n (i := 0) (b := 20) dX7_readExpression_19 rfl rfl rfl ?_
  refine x_iconst (n := 0) (b := 21) dX7_readExpression_20 (by decide) rfl ?_
  refine x_putI (b := 24) fk_X7_59 dX7_readExpression_21 rfl rfl 16 rfl ?_
  obtain ⟨h4, e_h4, hF⟩ := lt_e hF
  refine x_hp (h2 := h4) e_h4 ?_
  replace hL : Lay h4 := by rw [← e_h4]; exact hL
  refine x_aload_n (i := 0) (b := 25) dX7_readExpression_24 rfl rfl rfl ?_
  refine x_iconst (n := 1) (b := 26) dX7_readExpression_25 (by decide) rfl ?_
  refine x_putZ (b := 29) fk_X7_65 dX7_readExpression_26 rfl (by decide) rfl 18 rfl ?_
  obtain ⟨h5, e_h5, hF⟩ := lt_e hF
  refine x_hp (h2 := h5) e_h5 ?_
  replace hL : Lay h5 := by rw [← e_h5]; exact hL
  refine x_iconst (n := 0) (b := 30) dX7_readExpression_29 (by decide) rfl ?_
  refine x_istore_n (i := 2) (b := 31) (ls2 := [some (xr 7 0), some (xr 4 x1), some (xi 0)]) dX7_readExpression_30 rfl (Nat.le_of_ble_eq_true rfl) rfl rfl ?_
  exact x_dp (ls2 := [some (xr 7 0), some (xr 4 x1), some (xi 0)]) ⟨rfl, rfl, rfl, trivial⟩ (hr_31 x1 0 h5 hL hF)
set_option maxHeartbeats 4000000 in
set_option maxRecDepth 100000 in
theorem t_X7_readExpression_1 (E : xE) (d : Nat) (rec : Rk) (n : Nat) (r : Int × Hp) (hr_52 : ∀ (x1 x2 : Int) (h : Hp), Lay h → rec 2 [x1, x2] h = some r → X E mX7_readExpression (d + 4) (0, 0) (0, 0) 52 [some (xr 7 0), some (xr 4 x1), some (xi x2)] [] h (PoI r)) (hr_88 : ∀ (x1 : Int) (h : Hp), Lay h → rec 4 [x1] h = some r → X E mX7_readExpression (d + 4) (0, 0) (0, 0) 88 [some (xr 7 0), some (xr 4 x1), none] [] h (PoI r)) (x1 x2 : Int) (h : Hp) (hL : Lay h) (hF : b_X7_readExpression_1 rec n x1 x2 h = some r) : X E mX7_readExpression (d + 4) (0, 0) (0, 0) 31 [some (xr 7 0), some (xr 4 x1), some (xi x2)] [] h (PoI r) := by
  unfold b_X7_readExpression_1 at hF
  refine x_iload_n (i := 2) (b := 32) dX7_readExpression_31 rfl rfl rfl ?_
  refine x_sipush (n := 800) (b := 35) dX7_readExpression_32 (by decide) rfl ?_
  refine x_icmp_gt (tgt := 88) (b := 38) dX7_readExpression_35 (by decide) rfl (fun hc => ?_) (fun hc => ?_)
  · replace hF := br_T hc hF
    exact x_dp (ls2 := [some (xr 7 0), some (xr 4 x1), none]) ⟨rfl, rfl, trivial⟩ (hr_88 x1 h hL hF)
  · replace hF := br_F hc hF
    refine x_aload_n (i := 0) (b := 39) dX7_readExpression_38 rfl rfl rfl ?_
    refine x_getI (v := gI h 7 0 18) (b := 42) fk_X7_65 dX7_readExpression_39 (by decide) rfl rfl ?_
    refine x_if_ne (tgt := 52) (b := 45) dX7_readExpression_42 (by decide) rfl (fun hc => ?_) (fun hc => ?_)
    · replace hF := br_F hc hF
      exact x_dp (ls2 := [some (xr 7 0), some (xr 4 x1), some (xi x2)]) ⟨rfl, rfl, rfl, trivial⟩ (hr_52 x1 x2 h hL hF)
    · replace hF := br_T hc hF
      refine x_aload_n (i := 0) (b := 46) dX7_readExpression_45 rfl rfl rfl ?_
      obtain ⟨v1, h2, hq, hF⟩ := bd_e hF
      refine x_callV (as := []) (rest := []) (b := 49) (c_X7_goesOn (d + 2) n h _ hL hq) dX7_readExpression_46 cw_X7_321 ⟨_, _, rfl, Nat.le_of_ble_eq_true rfl⟩ rfl rfl (Nat.le_of_ble_eq_true rfl) ⟨Nat.le_refl _, Nat.le_refl _⟩ rfl (fun rv hh hp _ => ?_)
      obtain ⟨rfl, rfl, hL⟩ := hp
      refine x_if_eq (tgt := 88) (b := 52) dX7_readExpression_49 (by decide) rfl (fun hc => ?_) (fun hc => ?_)
      · replace hF := br_T hc hF
        exact x_dp (ls2 := [some (xr 7 0), some (xr 4 x1), none]) ⟨rfl, rfl, trivial⟩ (hr_88 x1 h2 hL hF)
      · replace hF := br_F hc hF
        exact x_dp (ls2 := [some (xr 7 0), some (xr 4 x1), some (xi x2)]) ⟨rfl, rfl, rfl, trivial⟩ (hr_52 x1 x2 h2 hL hF)
set_option maxHeartbeats 4000000 in
set_option maxRecDepth 100000 in
theorem t_X7_readExpression_2 (E : xE) (d : Nat) (rec : Rk) (n : Nat) (r : Int × Hp) (hr_78 : ∀ (x1 x2 : Int) (h : Hp), Lay h → rec 3 [x1, x2] h = some r → X E mX7_readExpression (d + 4) (0, 0) (0, 0) 78 [some (xr 7 0), some (xr 4 x1), some (xi x2)] [] h (PoI r)) (x1 x2 : Int) (h : Hp) (hL : Lay h) (hF : b_X7_readExpression_2 rec n x1 x2 h = some r) : X E mX7_readExpression (d + 4) (0, 0) (0, 0) 52 [some (xr 7 0), some (xr 4 x1), some (xi x2)] [] h (PoI r) := by
  unfold b_X7_readExpression_2 at hF
  refine x_aload_n (i := 0) (b := 53) dX7_readExpression_52 rfl rfl rfl ?_
  refine x_getI (v := gI h 7 0 18) (b := 56) fk_X7_65 dX7_readExpression_53 (by decide) rfl rfl ?_
  refine x_if_eq (tgt := 69) (b := 59) dX7_readExpression_56 (by decide) rfl (fun hc => ?_) (fun hc => ?_)
  · replace hF := br_T hc hF
    refine x_aload_n (i := 0) (b := 70) dX7_readExpression_69 rfl rfl rfl ?_
    obtain ⟨v1, h2, hq, hF⟩ := bd_e hF
    refine x_callV (as := []) (rest := []) (b := 73) (c_X7_takeSign d n h _ hL hq) dX7_readExpression_70 cw_X7_327 ⟨_, _, rfl, Nat.le_of_ble_eq_true rfl⟩ rfl rfl (Nat.le_of_ble_eq_true rfl) ⟨Nat.le_refl _, Nat.le_refl _⟩ rfl (fun rv hh hp _ => ?_)
    obtain ⟨rfl, rfl, hL⟩ := hp
    refine x_if_ne (tgt := 78) (b := 76) dX7_readExpression_73 (by decide) rfl (fun hc => ?_) (fun hc => ?_)
    · replace hF := br_F hc hF
      exact x_dp (ls2 := [some (xr 7 0), some (xr 4 x1), some (xi x2)]) ⟨rfl, rfl, rfl, trivial⟩ (hr_78 x1 x2 h2 hL hF)
    · replace hF := br_T hc hF
      refine x_iconst (n := 0) (b := 77) dX7_readExpression_76 (by decide) rfl ?_
      refine x_zreturn dX7_readExpression_77 rfl ⟨Nat.le_refl _, Nat.le_refl _⟩ (by decide) ?_
      cases hF
      exact ⟨rfl, rfl, hL⟩
  · replace hF := br_F hc hF
    refine x_aload_n (i := 0) (b := 60) dX7_readExpression_59 rfl rfl rfl ?_
    obtain ⟨v3, h4, hq, hF⟩ := bd_e hF
    refine x_callV (as := []) (rest := []) (b := 63) (c_X7_takePart d n h _ hL hq) dX7_readExpression_60 cw_X7_324 ⟨_, _, rfl, Nat.le_of_ble_eq_true rfl⟩ rfl rfl (Nat.le_of_ble_eq_true rfl) ⟨Nat.le_refl _, Nat.le_refl _⟩ rfl (fun rv hh hp _ => ?_)
    obtain ⟨rfl, rfl, hL⟩ := hp
    refine x_if_ne (tgt := 78) (b := 66) dX7_readExpression_63 (by decide) rfl (fun hc => ?_) (fun hc => ?_)
    · replace hF := br_F hc hF
      exact x_dp (ls2 := [some (xr 7 0), some (xr 4 x1), some (xi x2)]) ⟨rfl, rfl, rfl, trivial⟩ (hr_78 x1 x2 h4 hL hF)
    · replace hF := br_T hc hF
      refine x_goto (tgt := 76) dX7_readExpression_66 (by decide) ?_
      refine x_iconst (n := 0) (b := 77) dX7_readExpression_76 (by decide) rfl ?_
      refine x_zreturn dX7_readExpression_77 rfl ⟨Nat.le_refl _, Nat.le_refl _⟩ (by decide) ?_
      cases hF
      exact ⟨rfl, rfl, hL⟩
set_option maxHeartbeats 4000000 in
set_option maxRecDepth 100000 in
theorem t_X7_readExpression_3 (E : xE) (d : Nat) (rec : Rk) (n : Nat) (r : Int × Hp) (hr_31 : ∀ (x1 x2 : Int) (h : Hp), Lay h → rec 1 [x1, x2] h = some r → X E mX7_readExpression (d + 4) (0, 0) (0, 0) 31 [some (xr 7 0), some (xr 4 x1), some (xi x2)] [] h (PoI r)) (x1 x2 : Int) (h : Hp) (hL : Lay h) (hF : b_X7_readExpression_3 rec n x1 x2 h = some r) : X E mX7_readExpression (d + 4) (0, 0) (0, 0) 78 [some (xr 7 0), some (xr 4 x1), some (xi x2)] [] h (PoI r) := by
  unfold b_X7_readExpression_3 at hF
  refine x_aload_n (i := 0) (b := 79) dX7_readExpression_78 rfl rfl rfl ?_
  obtain ⟨v1, h2, hq, hF⟩ := bd_e hF
  refine x_callV (as := []) (rest := []) (b := 82) (c_X7_advance (d + 2) n h _ hL hq) dX7_readExpression_79 cw_X7_89 ⟨_, _, rfl, Nat.le_of_ble_eq_true rfl⟩ rfl rfl (Nat.le_of_ble_eq_true rfl) ⟨Nat.le_refl _, Nat.le_refl _⟩ rfl (fun rv hh hp _ => ?_)
  obtain ⟨rfl, rfl, hL⟩ := hp
  obtain ⟨hs, hF⟩ := ck_e hF
  refine x_iinc (i := 2) (b := 85) (ls2 := [some (xr 7 0), some (xr 4 x1), some (xi (x2 + 1))]) dX7_readExpression_82 rfl (Nat.le_of_ble_eq_true rfl) hs rfl rfl ?_
  refine x_goto (tgt := 31) dX7_readExpression_85 (by decide) ?_
  exact x_dp (ls2 := [some (xr 7 0), some (xr 4 x1), some (xi (x2 + 1))]) ⟨rfl, rfl, rfl, trivial⟩ (hr_31 x1 (x2 + 1) h2 hL hF)
set_option maxHeartbeats 4000000 in
set_option maxRecDepth 100000 in
theorem t_X7_readExpression_4 (E : xE) (d : Nat) (rec : Rk) (n : Nat) (r : Int × Hp) (x1 : Int) (h : Hp) (hL : Lay h) (hF : b_X7_readExpression_4 rec n x1 h = some r) : X E mX7_readExpression (d + 4) (0, 0) (0, 0) 88 [some (xr 7 0), some (xr 4 x1), none] [] h (PoI r) := by
  unfold b_X7_readExpression_4 at hF
  refine x_aload_n (i := 0) (b := 89) dX7_readExpression_88 rfl rfl rfl ?_
  refine x_getI (v := gI h 7 0 16) (b := 92) fk_X7_59 dX7_readExpression_89 (by decide) rfl rfl ?_
  refine x_if_le (tgt := 105) (b := 95) dX7_readExpression_92 (by decide) rfl (fun hc => ?_) (fun hc => ?_)
  · replace hF := br_T hc hF
    refine x_aload_n (i := 0) (b := 106) dX7_readExpression_105 rfl rfl rfl ?_
    refine x_iconst (n := 1) (b := 107) dX7_readExpression_106 (by decide) rfl ?_
    obtain ⟨v1, h2, hq, hF⟩ := bd_e hF
    refine x_callV (as := [xi 1]) (rest := []) (b := 110) (c_X7_release (d + 1) n 1 h _ hL hq) dX7_readExpression_107 cw_X7_330 ⟨_, _, rfl, Nat.le_of_ble_eq_true rfl⟩ rfl rfl (Nat.le_of_ble_eq_true rfl) ⟨Nat.le_refl _, Nat.le_refl _⟩ rfl (fun rv hh hp _ => ?_)
    obtain ⟨rfl, rfl, hL⟩ := hp
    refine x_aload_n (i := 1) (b := 111) dX7_readExpression_110 rfl rfl rfl ?_
    refine x_aload_n (i := 0) (b := 112) dX7_readExpression_111 rfl rfl rfl ?_
    obtain ⟨j3, e_j3, hF⟩ := rf_e hF
    refine x_getR (v := some (0, j3)) (b := 115) fk_X7_76 dX7_readExpression_112 rfl e_j3 rfl ?_
    refine x_getL (j := j3) (t := (1, 0, true)) (b := 118) fk_X7_313 dX7_readExpression_115 rfl hL rfl rfl rfl ?_
    refine x_getI (v := gI h2 1 j3 2) (b := 121) fk_X7_317 dX7_readExpression_118 (by decide) rfl rfl ?_
    refine x_putI (b := 124) fk_X7_333 dX7_readExpression_121 rfl rfl 9 rfl ?_
    obtain ⟨h4, e_h4, hF⟩ := lt_e hF
    refine x_hp (h2 := h4) e_h4 ?_
    replace hL : Lay h4 := by rw [← e_h4]; exact hL
    refine x_iconst (n := 1) (b := 125) dX7_readExpression_124 (by decide) rfl ?_
    refine x_zreturn dX7_readExpression_125 rfl ⟨Nat.le_refl _, Nat.le_refl _⟩ (by decide) ?_
    cases hF
    exact ⟨rfl, rfl, hL⟩
  · replace hF := br_F hc hF
    refine x_aload_n (i := 0) (b := 96) dX7_readExpression_95 rfl rfl rfl ?_
    refine x_iconst (n := 1) (b := 97) dX7_readExpression_96 (by decide) rfl ?_
    refine x_aload_n (i := 0) (b := 98) dX7_readExpression_97 rfl rfl rfl ?_
    refine x_getI (v := gI h 7 0 7) (b := 101) fk_X7_29 dX7_readExpression_98 (by decide) rfl rfl ?_
    obtain ⟨v5, h6, hq, hF⟩ := bd_e hF
    refine x_callV (as := [xi 1, xi (gI h 7 0 7)]) (rest := []) (b := 104) (c_X7_wrong (d + 2) n 1 (gI h 7 0 7) h _ hL hq) dX7_readExpression_101 cw_X7_149 ⟨_, _, rfl, Nat.le_of_ble_eq_true rfl⟩ rfl rfl (Nat.le_of_ble_eq_true rfl) ⟨Nat.le_refl _, Nat.le_refl _⟩ rfl (fun rv hh hp _ => ?_)
    obtain ⟨rfl, rfl, hL⟩ := hp
    obtain ⟨hs, hF⟩ := ck_e hF
    refine x_zreturn dX7_readExpression_104 rfl ⟨Nat.le_refl _, Nat.le_refl _⟩ hs ?_
    cases hF
    exact ⟨rfl, rfl, hL⟩
set_option maxHeartbeats 4000000 in
set_option maxRecDepth 100000 in
theorem u_X7_readExpression (E : xE) (d : Nat) (r : Int × Hp) : ∀ n : Nat, (∀ (x1 : Int) (h : Hp), Lay h → g_X7_readExpression n 0 [x1] h = some r → X E mX7_readExpression (d + 4) (0, 0) (0, 0) 0 [some (xr 7 0), some (xr 4 x1), none] [] h (PoI r)) ∧ (∀ (x1 x2 : Int) (h : Hp), Lay h → g_X7_readExpression n 1 [x1, x2] h = some r → X E mX7_readExpression (d + 4) (0, 0) (0, 0) 31 [some (xr 7 0), some (xr 4 x1), some (xi x2)] [] h (PoI r)) ∧ (∀ (x1 x2 : Int) (h : Hp), Lay h → g_X7_readExpression n 2 [x1, x2] h = some r → X E mX7_readExpression (d + 4) (0, 0) (0, 0) 52 [some (xr 7 0), some (xr 4 x1), some (xi x2)] [] h (PoI r)) ∧ (∀ (x1 x2 : Int) (h : Hp), Lay h → g_X7_readExpression n 3 [x1, x2] h = some r → X E mX7_readExpression (d + 4) (0, 0) (0, 0) 78 [some (xr 7 0), some (xr 4 x1), some (xi x2)] [] h (PoI r)) ∧ (∀ (x1 : Int) (h : Hp), Lay h → g_X7_readExpression n 4 [x1] h = some r → X E mX7_readExpression (d + 4) (0, 0) (0, 0) 88 [some (xr 7 0), some (xr 4 x1), none] [] h (PoI r)) := by
  intro n
  induction n with
  | zero => exact ⟨fun _ _ _ hF => no_e (r := r) hF, fun _ _ _ _ hF => no_e (r := r) hF, fun _ _ _ _ hF => no_e (r := r) hF, fun _ _ _ _ hF => no_e (r := r) hF, fun _ _ _ hF => no_e (r := r) hF⟩
  | succ n ih => exact ⟨fun x1 h hL hF => t_X7_readExpression_0 E d (g_X7_readExpression n) n r ih.2.1 x1 h hL hF, fun x1 x2 h hL hF => t_X7_readExpression_1 E d (g_X7_readExpression n) n r ih.2.2.1 ih.2.2.2.2 x1 x2 h hL hF, fun x1 x2 h hL hF => t_X7_readExpression_2 E d (g_X7_readExpression n) n r ih.2.2.2.1 x1 x2 h hL hF, fun x1 x2 h hL hF => t_X7_readExpression_3 E d (g_X7_readExpression n) n r ih.2.1 x1 x2 h hL hF, fun x1 h hL hF => t_X7_readExpression_4 E d (g_X7_readExpression n) n r  x1 h hL hF⟩
theorem c_X7_readExpression (d n : Nat) (x1 : Int) (h : Hp) (r : Int × Hp) (hL : Lay h) (hF : f_X7_readExpression n x1 h = some r) : Sp mX7_readExpression (d + 4) (0, 0) [xr 7 0, xr 4 x1] h (PoI r) :=
  sp_of (by decide) rfl (Nat.le_of_ble_eq_true rfl) (ls := [some (xr 7 0), some (xr 4 x1), none]) rfl (fun E _ => (u_X7_readExpression E d r n).1 x1 h hL hF)
theorem dX7_readGale_0 : decode cX7_readGale 0 = .ok (.aload_n 0, 1) := by decide +kernel
theorem dX7_readGale_1 : decode cX7_readGale 1 = .ok (.getfield 76, 3) := by decide +kernel
theorem dX7_readGale_4 : decode cX7_readGale 4 = .ok (.getfield 226, 3) := by decide +kernel
theorem dX7_readGale_7 : decode cX7_readGale 7 = .ok (.istore_n 2, 1) := by decide +kernel
theorem dX7_readGale_8 : decode cX7_readGale 8 = .ok (.iload_n 2, 1) := by decide +kernel
theorem dX7_readGale_9 : decode cX7_readGale 9 = .ok (.ifCond .lt 8, 3) := by decide +kernel
theorem dX7_readGale_12 : decode cX7_readGale 12 = .ok (.iload_n 2, 1) := by decide +kernel
theorem dX7_readGale_13 : decode cX7_readGale 13 = .ok (.iconst 4, 1) := by decide +kernel
theorem dX7_readGale_14 : decode cX7_readGale 14 = .ok (.if_icmp .lt 10, 3) := by decide +kernel
theorem dX7_readGale_17 : decode cX7_readGale 17 = .ok (.aload_n 0, 1) := by decide +kernel
theorem dX7_readGale_18 : decode cX7_readGale 18 = .ok (.iconst 2, 1) := by decide +kernel
theorem dX7_readGale_19 : decode cX7_readGale 19 = .ok (.iload_n 1, 1) := by decide +kernel
theorem dX7_readGale_20 : decode cX7_readGale 20 = .ok (.invokevirtual 149, 3) := by decide +kernel
theorem dX7_readGale_23 : decode cX7_readGale 23 = .ok (.ireturn, 1) := by decide +kernel
theorem dX7_readGale_24 : decode cX7_readGale 24 = .ok (.aload_n 0, 1) := by decide +kernel
theorem dX7_readGale_25 : decode cX7_readGale 25 = .ok (.iconst 0, 1) := by decide +kernel
theorem dX7_readGale_26 : decode cX7_readGale 26 = .ok (.bipush 59, 2) := by decide +kernel
theorem dX7_readGale_28 : decode cX7_readGale 28 = .ok (.invokevirtual 167, 3) := by decide +kernel
theorem dX7_readGale_31 : decode cX7_readGale 31 = .ok (.ifCond .ne 5, 3) := by decide +kernel
theorem dX7_readGale_34 : decode cX7_readGale 34 = .ok (.iconst 0, 1) := by decide +kernel
theorem dX7_readGale_35 : decode cX7_readGale 35 = .ok (.ireturn, 1) := by decide +kernel
theorem dX7_readGale_36 : decode cX7_readGale 36 = .ok (.aload_n 0, 1) := by decide +kernel
theorem dX7_readGale_37 : decode cX7_readGale 37 = .ok (.getfield 76, 3) := by decide +kernel
theorem dX7_readGale_40 : decode cX7_readGale 40 = .ok (.getfield 229, 3) := by decide +kernel
theorem dX7_readGale_43 : decode cX7_readGale 43 = .ok (.iload_n 2, 1) := by decide +kernel
theorem dX7_readGale_44 : decode cX7_readGale 44 = .ok (.aload_n 0, 1) := by decide +kernel
theorem dX7_readGale_45 : decode cX7_readGale 45 = .ok (.getfield 41, 3) := by decide +kernel
theorem dX7_readGale_48 : decode cX7_readGale 48 = .ok (.iastore, 1) := by decide +kernel
theorem dX7_readGale_49 : decode cX7_readGale 49 = .ok (.aload_n 0, 1) := by decide +kernel
theorem dX7_readGale_50 : decode cX7_readGale 50 = .ok (.iconst 0, 1) := by decide +kernel
theorem dX7_readGale_51 : decode cX7_readGale 51 = .ok (.iconst 3, 1) := by decide +kernel
theorem dX7_readGale_52 : decode cX7_readGale 52 = .ok (.invokevirtual 167, 3) := by decide +kernel
theorem dX7_readGale_55 : decode cX7_readGale 55 = .ok (.ifCond .ne 5, 3) := by decide +kernel
theorem dX7_readGale_58 : decode cX7_readGale 58 = .ok (.iconst 0, 1) := by decide +kernel
theorem dX7_readGale_59 : decode cX7_readGale 59 = .ok (.ireturn, 1) := by decide +kernel
theorem dX7_readGale_60 : decode cX7_readGale 60 = .ok (.aload_n 0, 1) := by decide +kernel
theorem dX7_readGale_61 : decode cX7_readGale 61 = .ok (.getfield 76, 3) := by decide +kernel
theorem dX7_readGale_64 : decode cX7_readGale 64 = .ok (.getfield 232, 3) := by decide +kernel
theorem dX7_readGale_67 : decode cX7_readGale 67 = .ok (.iload_n 2, 1) := by decide +kernel
theorem dX7_readGale_68 : decode cX7_readGale 68 = .ok (.aload_n 0, 1) := by decide +kernel
theorem dX7_readGale_69 : decode cX7_readGale 69 = .ok (.getfield 41, 3) := by decide +kernel
theorem dX7_readGale_72 : decode cX7_readGale 72 = .ok (.iastore, 1) := by decide +kernel
theorem dX7_readGale_73 : decode cX7_readGale 73 = .ok (.aload_n 0, 1) := by decide +kernel
theorem dX7_readGale_74 : decode cX7_readGale 74 = .ok (.iconst 1, 1) := by decide +kernel
theorem dX7_readGale_75 : decode cX7_readGale 75 = .ok (.bipush 99, 2) := by decide +kernel
theorem dX7_readGale_77 : decode cX7_readGale 77 = .ok (.invokevirtual 167, 3) := by decide +kernel
theorem dX7_readGale_80 : decode cX7_readGale 80 = .ok (.ifCond .ne 5, 3) := by decide +kernel
theorem dX7_readGale_83 : decode cX7_readGale 83 = .ok (.iconst 0, 1) := by decide +kernel
theorem dX7_readGale_84 : decode cX7_readGale 84 = .ok (.ireturn, 1) := by decide +kernel
theorem dX7_readGale_85 : decode cX7_readGale 85 = .ok (.aload_n 0, 1) := by decide +kernel
theorem dX7_readGale_86 : decode cX7_readGale 86 = .ok (.getfield 76, 3) := by decide +kernel
theorem dX7_readGale_89 : decode cX7_readGale 89 = .ok (.getfield 235, 3) := by decide +kernel
theorem dX7_readGale_92 : decode cX7_readGale 92 = .ok (.iload_n 2, 1) := by decide +kernel
theorem dX7_readGale_93 : decode cX7_readGale 93 = .ok (.aload_n 0, 1) := by decide +kernel
theorem dX7_readGale_94 : decode cX7_readGale 94 = .ok (.getfield 41, 3) := by decide +kernel
theorem dX7_readGale_97 : decode cX7_readGale 97 = .ok (.iastore, 1) := by decide +kernel
theorem dX7_readGale_98 : decode cX7_readGale 98 = .ok (.aload_n 0, 1) := by decide +kernel
theorem dX7_readGale_99 : decode cX7_readGale 99 = .ok (.getfield 76, 3) := by decide +kernel
theorem dX7_readGale_102 : decode cX7_readGale 102 = .ok (.dup, 1) := by decide +kernel
theorem dX7_readGale_103 : decode cX7_readGale 103 = .ok (.getfield 226, 3) := by decide +kernel
theorem dX7_readGale_106 : decode cX7_readGale 106 = .ok (.iconst 1, 1) := by decide +kernel
theorem dX7_readGale_107 : decode cX7_readGale 107 = .ok (.iadd, 1) := by decide +kernel
theorem dX7_readGale_108 : decode cX7_readGale 108 = .ok (.putfield 226, 3) := by decide +kernel
theorem dX7_readGale_111 : decode cX7_readGale 111 = .ok (.iconst 1, 1) := by decide +kernel
theorem dX7_readGale_112 : decode cX7_readGale 112 = .ok (.ireturn, 1) := by decide +kernel
noncomputable def b_X7_readGale_0 (rec : Rk) (n : Nat) (x1 : Int) (h : Hp) : Option (Int × Hp) :=
  rf (gR h 7 0 1) 0 fun j1 =>
  lt (gI h 0 j1 10) fun z2 =>
  if z2 < 0 then (
    rec 1 [x1] h
  ) else (
    if z2 < 4 then (
      bd (f_X7_readNumber n 0 59 h) fun v3 h4 =>
      if v3 = 0 then (
        some (0, h4)
      ) else (
        rf (gR h4 7 0 1) 0 fun j5 =>
        ck (0 ≤ z2 ∧ z2 < 4) <|
        lt (sI h4 22 j5 z2 (gI h4 7 0 11)) fun h6 =>
        bd (f_X7_readNumber n 0 3 h6) fun v7 h8 =>
        if v7 = 0 then (
          some (0, h8)
        ) else (
          rf (gR h8 7 0 1) 0 fun j9 =>
          ck (0 ≤ z2 ∧ z2 < 4) <|
          lt (sI h8 23 j9 z2 (gI h8 7 0 11)) fun h10 =>
          bd (f_X7_readNumber n 1 99 h10) fun v11 h12 =>
          if v11 = 0 then (
            some (0, h12)
          ) else (
            rf (gR h12 7 0 1) 0 fun j13 =>
            ck (0 ≤ z2 ∧ z2 < 4) <|
            lt (sI h12 24 j13 z2 (gI h12 7 0 11)) fun h14 =>
            rf (gR h14 7 0 1) 0 fun j15 =>
            ck (-2147483648 ≤ (gI h14 0 j15 10) + 1 ∧ (gI h14 0 j15 10) + 1 < 2147483648) <|
            lt (sI h14 0 j15 10 ((gI h14 0 j15 10) + 1)) fun h16 =>
            some (1, h16)
          )
        )
      )
    ) else (
      rec 1 [x1] h
    )
  )
noncomputable def b_X7_readGale_1 (rec : Rk) (n : Nat) (x1 : Int) (h : Hp) : Option (Int × Hp) :=
  bd (f_X7_wrong n 2 x1 h) fun v1 h2 =>
  ck (0 ≤ v1 ∧ v1 < 2) <|
  some (v1, h2)
noncomputable def g_X7_readGale (n : Nat) : Rk := Nat.rec (motive := fun _ => Rk) (fun _ _ _ => none) (fun n rec k l h => if k = 0 then b_X7_readGale_0 rec n (l.getD 0 0) h else if k = 1 then b_X7_readGale_1 rec n (l.getD 0 0) h else none) n
noncomputable def f_X7_readGale (n : Nat) (x1 : Int) (h : Hp) : Option (Int × Hp) := g_X7_readGale n 0 [x1] h
set_option maxHeartbeats 4000000 in
set_option maxRecDepth 100000 in
theorem t_X7_readGale_0 (E : xE) (d : Nat) (rec : Rk) (n : Nat) (r : Int × Hp) (hr_17 : ∀ (x1 : Int) (h : Hp), Lay h → rec 1 [x1] h = some r → X E mX7_readGale (d + 3) (0, 0) (0, 0) 17 [some (xr 7 0), some (xi x1), none] [] h (PoI r)) (x1 : Int) (h : Hp) (hL : Lay h) (hF : b_X7_readGale_0 rec n x1 h = some r) : X E mX7_readGale (d + 3) (0, 0) (0, 0) 0 [some (xr 7 0), some (xi x1), none] [] h (PoI r) := by
  unfold b_X7_readGale_0 at hF
  refine x_aload_n (i := 0) (b := 1) dX7_readGale_0 rfl rfl rfl ?_
  obtain ⟨j1, e_j1, hF⟩ := rf_e hF
  refine x_getR (v := some (0, j1)) (b := 4) fk_X7_76 dX7_readGale_1 rfl e_j1 rfl ?_
  refine x_getI (v := gI h 0 j1 10) (b := 7) fk_X7_226 dX7_readGale_4 (by decide) rfl rfl ?_
  obtain ⟨z2, e_z2, hF⟩ := lt_e hF
  refine x_eq (y := z2) e_z2 ?_
  refine x_istore_n (i := 2) (b := 8) (ls2 := [some (xr 7 0), some (xi x1), some (xi z2)]) dX7_readGale_7 rfl (Nat.le_of_ble_eq_true rfl) rfl rfl ?_
  refine x_iload_n (i := 2) (b := 9) dX7_readGale_8 rfl rfl rfl ?_
  refine x_if_lt (tgt := 17) (b := 12) dX7_readGale_9 (by decide) rfl (fun hc => ?_) (fun hc => ?_)
  · replace hF := br_T hc hF
    exact x_dp (ls2 := [some (xr 7 0), some (xi x1), none]) ⟨rfl, rfl, trivial⟩ (hr_17 x1 h hL hF)
  · replace hF := br_F hc hF
    refine x_iload_n (i := 2) (b := 13) dX7_readGale_12 rfl rfl rfl ?_
    refine x_iconst (n := 4) (b := 14) dX7_readGale_13 (by decide) rfl ?_
    refine x_icmp_lt (tgt := 24) (b := 17) dX7_readGale_14 (by decide) rfl (fun hc => ?_) (fun hc => ?_)
    · replace hF := br_T hc hF
      refine x_aload_n (i := 0) (b := 25) dX7_readGale_24 rfl rfl rfl ?_
      refine x_iconst (n := 0) (b := 26) dX7_readGale_25 (by decide) rfl ?_
      refine x_bipush (n := 59) (b := 28) dX7_readGale_26 (by decide) rfl ?_
      obtain ⟨v3, h4, hq, hF⟩ := bd_e hF
      refine x_callV (as := [xi 0, xi 59]) (rest := []) (b := 31) (c_X7_readNumber d n 0 59 h _ hL hq) dX7_readGale_28 cw_X7_167 ⟨_, _, rfl, Nat.le_of_ble_eq_true rfl⟩ rfl rfl (Nat.le_of_ble_eq_true rfl) ⟨Nat.le_refl _, Nat.le_refl _⟩ rfl (fun rv hh hp _ => ?_)
      obtain ⟨rfl, rfl, hL⟩ := hp
      refine x_if_ne (tgt := 36) (b := 34) dX7_readGale_31 (by decide) rfl (fun hc => ?_) (fun hc => ?_)
      · replace hF := br_F hc hF
        refine x_aload_n (i := 0) (b := 37) dX7_readGale_36 rfl rfl rfl ?_
        obtain ⟨j5, e_j5, hF⟩ := rf_e hF
        refine x_getR (v := some (0, j5)) (b := 40) fk_X7_76 dX7_readGale_37 rfl e_j5 rfl ?_
        refine x_getL (j := j5) (t := (22, 0, true)) (b := 43) fk_X7_229 dX7_readGale_40 rfl hL rfl rfl rfl ?_
        refine x_iload_n (i := 2) (b := 44) dX7_readGale_43 rfl rfl rfl ?_
        refine x_aload_n (i := 0) (b := 45) dX7_readGale_44 rfl rfl rfl ?_
        refine x_getI (v := gI h4 7 0 11) (b := 48) fk_X7_41 dX7_readGale_45 (by decide) rfl rfl ?_
        obtain ⟨hs, hF⟩ := ck_e hF
        have hs1 := hs
        refine x_iast (b := 49) ak_22 dX7_readGale_48 hs1 rfl ?_
        obtain ⟨h6, e_h6, hF⟩ := lt_e hF
        refine x_hp (h2 := h6) e_h6 ?_
        replace hL : Lay h6 := by rw [← e_h6]; exact hL
        refine x_aload_n (i := 0) (b := 50) dX7_readGale_49 rfl rfl rfl ?_
        refine x_iconst (n := 0) (b := 51) dX7_readGale_50 (by decide) rfl ?_
        refine x_iconst (n := 3) (b := 52) dX7_readGale_51 (by decide) rfl ?_
        obtain ⟨v7, h8, hq, hF⟩ := bd_e hF
        refine x_callV (as := [xi 0, xi 3]) (rest := []) (b := 55) (c_X7_readNumber d n 0 3 h6 _ hL hq) dX7_readGale_52 cw_X7_167 ⟨_, _, rfl, Nat.le_of_ble_eq_true rfl⟩ rfl rfl (Nat.le_of_ble_eq_true rfl) ⟨Nat.le_refl _, Nat.le_refl _⟩ rfl (fun rv hh hp _ => ?_)
        obtain ⟨rfl, rfl, hL⟩ := hp
        refine x_if_ne (tgt := 60) (b := 58) dX7_readGale_55 (by decide) rfl (fun hc => ?_) (fun hc => ?_)
        · replace hF := br_F hc hF
          refine x_aload_n (i := 0) (b := 61) dX7_readGale_60 rfl rfl rfl ?_
          obtain ⟨j9, e_j9, hF⟩ := rf_e hF
          refine x_getR (v := some (0, j9)) (b := 64) fk_X7_76 dX7_readGale_61 rfl e_j9 rfl ?_
          refine x_getL (j := j9) (t := (23, 0, true)) (b := 67) fk_X7_232 dX7_readGale_64 rfl hL rfl rfl rfl ?_
          refine x_iload_n (i := 2) (b := 68) dX7_readGale_67 rfl rfl rfl ?_
          refine x_aload_n (i := 0) (b := 69) dX7_readGale_68 rfl rfl rfl ?_
          refine x_getI (v := gI h8 7 0 11) (b := 72) fk_X7_41 dX7_readGale_69 (by decide) rfl rfl ?_
          obtain ⟨hs, hF⟩ := ck_e hF
          have hs1 := hs
          refine x_iast (b := 73) ak_23 dX7_readGale_72 hs1 rfl ?_
          obtain ⟨h10, e_h10, hF⟩ := lt_e hF
          refine x_hp (h2 := h10) e_h10 ?_
          replace hL : Lay h10 := by rw [← e_h10]; exact hL
          refine x_aload_n (i := 0) (b := 74) dX7_readGale_73 rfl rfl rfl ?_
          refine x_iconst (n := 1) (b := 75) dX7_readGale_74 (by decide) rfl ?_
          refine x_bipush (n := 99) (b := 77) dX7_readGale_75 (by decide) rfl ?_
          obtain ⟨v11, h12, hq, hF⟩ := bd_e hF
          refine x_callV (as := [xi 1, xi 99]) (rest := []) (b := 80) (c_X7_readNumber d n 1 99 h10 _ hL hq) dX7_readGale_77 cw_X7_167 ⟨_, _, rfl, Nat.le_of_ble_eq_true rfl⟩ rfl rfl (Nat.le_of_ble_eq_true rfl) ⟨Nat.le_refl _, Nat.le_refl _⟩ rfl (fun rv hh hp _ => ?_)
          obtain ⟨rfl, rfl, hL⟩ := hp
          refine x_if_ne (tgt := 85) (b := 83) dX7_readGale_80 (by decide) rfl (fun hc => ?_) (fun hc => ?_)
          · replace hF := br_F hc hF
            refine x_aload_n (i := 0) (b := 86) dX7_readGale_85 rfl rfl rfl ?_
            obtain ⟨j13, e_j13, hF⟩ := rf_e hF
            refine x_getR (v := some (0, j13)) (b := 89) fk_X7_76 dX7_readGale_86 rfl e_j13 rfl ?_
            refine x_getL (j := j13) (t := (24, 0, true)) (b := 92) fk_X7_235 dX7_readGale_89 rfl hL rfl rfl rfl ?_
            refine x_iload_n (i := 2) (b := 93) dX7_readGale_92 rfl rfl rfl ?_
            refine x_aload_n (i := 0) (b := 94) dX7_readGale_93 rfl rfl rfl ?_
            refine x_getI (v := gI h12 7 0 11) (b := 97) fk_X7_41 dX7_readGale_94 (by decide) rfl rfl ?_
            obtain ⟨hs, hF⟩ := ck_e hF
            have hs1 := hs
            refine x_iast (b := 98) ak_24 dX7_readGale_97 hs1 rfl ?_
            obtain ⟨h14, e_h14, hF⟩ := lt_e hF
            refine x_hp (h2 := h14) e_h14 ?_
            replace hL : Lay h14 := by rw [← e_h14]; exact hL
            refine x_aload_n (i := 0) (b := 99) dX7_readGale_98 rfl rfl rfl ?_
            obtain ⟨j15, e_j15, hF⟩ := rf_e hF
            refine x_getR (v := some (0, j15)) (b := 102) fk_X7_76 dX7_readGale_99 rfl e_j15 rfl ?_
            refine x_dup (b := 103) dX7_readGale_102 rfl rfl ?_
            refine x_getI (v := gI h14 0 j15 10) (b := 106) fk_X7_226 dX7_readGale_103 (by decide) rfl rfl ?_
            refine x_iconst (n := 1) (b := 107) dX7_readGale_106 (by decide) rfl ?_
            obtain ⟨hs, hF⟩ := ck_e hF
            refine x_iadd (b := 108) dX7_readGale_107 hs rfl ?_
            refine x_putI (b := 111) fk_X7_226 dX7_readGale_108 rfl rfl 10 rfl ?_
            obtain ⟨h16, e_h16, hF⟩ := lt_e hF
            refine x_hp (h2 := h16) e_h16 ?_
            replace hL : Lay h16 := by rw [← e_h16]; exact hL
            refine x_iconst (n := 1) (b := 112) dX7_readGale_111 (by decide) rfl ?_
            refine x_zreturn dX7_readGale_112 rfl ⟨Nat.le_refl _, Nat.le_refl _⟩ (by decide) ?_
            cases hF
            exact ⟨rfl, rfl, hL⟩
          · replace hF := br_T hc hF
            refine x_iconst (n := 0) (b := 84) dX7_readGale_83 (by decide) rfl ?_
            refine x_zreturn dX7_readGale_84 rfl ⟨Nat.le_refl _, Nat.le_refl _⟩ (by decide) ?_
            cases hF
            exact ⟨rfl, rfl, hL⟩
        · replace hF := br_T hc hF
          refine x_iconst (n := 0) (b := 59) dX7_readGale_58 (by decide) rfl ?_
          refine x_zreturn dX7_readGale_59 rfl ⟨Nat.le_refl _, Nat.le_refl _⟩ (by decide) ?_
          cases hF
          exact ⟨rfl, rfl, hL⟩
      · replace hF := br_T hc hF
        refine x_iconst (n := 0) (b := 35) dX7_readGale_34 (by decide) rfl ?_
        refine x_zreturn dX7_readGale_35 rfl ⟨Nat.le_refl _, Nat.le_refl _⟩ (by decide) ?_
        cases hF
        exact ⟨rfl, rfl, hL⟩
    · replace hF := br_F hc hF
      exact x_dp (ls2 := [some (xr 7 0), some (xi x1), none]) ⟨rfl, rfl, trivial⟩ (hr_17 x1 h hL hF)
set_option maxHeartbeats 4000000 in
set_option maxRecDepth 100000 in
theorem t_X7_readGale_1 (E : xE) (d : Nat) (rec : Rk) (n : Nat) (r : Int × Hp) (x1 : Int) (h : Hp) (hL : Lay h) (hF : b_X7_readGale_1 rec n x1 h = some r) : X E mX7_readGale (d + 3) (0, 0) (0, 0) 17 [some (xr 7 0), some (xi x1), none] [] h (PoI r) := by
  unfold b_X7_readGale_1 at hF
  refine x_aload_n (i := 0) (b := 18) dX7_readGale_17 rfl rfl rfl ?_
  refine x_iconst (n := 2) (b := 19) dX7_readGale_18 (by decide) rfl ?_
  refine x_iload_n (i := 1) (b := 20) dX7_readGale_19 rfl rfl rfl ?_
  obtain ⟨v1, h2, hq, hF⟩ := bd_e hF
  refine x_callV (as := [xi 2, xi x1]) (rest := []) (b := 23) (c_X7_wrong (d + 1) n 2 x1 h _ hL hq) dX7_readGale_20 cw_X7_149 ⟨_, _, rfl, Nat.le_of_ble_eq_true rfl⟩ rfl rfl (Nat.le_of_ble_eq_true rfl) ⟨Nat.le_refl _, Nat.le_refl _⟩ rfl (fun rv hh hp _ => ?_)
  obtain ⟨rfl, rfl, hL⟩ := hp
  obtain ⟨hs, hF⟩ := ck_e hF
  refine x_zreturn dX7_readGale_23 rfl ⟨Nat.le_refl _, Nat.le_refl _⟩ hs ?_
  cases hF
  exact ⟨rfl, rfl, hL⟩
set_option maxHeartbeats 4000000 in
set_option maxRecDepth 100000 in
theorem u_X7_readGale (E : xE) (d : Nat) (r : Int × Hp) : ∀ n : Nat, (∀ (x1 : Int) (h : Hp), Lay h → g_X7_readGale n 0 [x1] h = some r → X E mX7_readGale (d + 3) (0, 0) (0, 0) 0 [some (xr 7 0), some (xi x1), none] [] h (PoI r)) ∧ (∀ (x1 : Int) (h : Hp), Lay h → g_X7_readGale n 1 [x1] h = some r → X E mX7_readGale (d + 3) (0, 0) (0, 0) 17 [some (xr 7 0), some (xi x1), none] [] h (PoI r)) := by
  intro n
  induction n with
  | zero => exact ⟨fun _ _ _ hF => no_e (r := r) hF, fun _ _ _ hF => no_e (r := r) hF⟩
  | succ n ih => exact ⟨fun x1 h hL hF => t_X7_readGale_0 E d (g_X7_readGale n) n r ih.2 x1 h hL hF, fun x1 h hL hF => t_X7_readGale_1 E d (g_X7_readGale n) n r  x1 h hL hF⟩
theorem c_X7_readGale (d n : Nat) (x1 : Int) (h : Hp) (r : Int × Hp) (hL : Lay h) (hF : f_X7_readGale n x1 h = some r) : Sp mX7_readGale (d + 3) (0, 0) [xr 7 0, xi x1] h (PoI r) :=
  sp_of (by decide) rfl (Nat.le_of_ble_eq_true rfl) (ls := [some (xr 7 0), some (xi x1), none]) rfl (fun E _ => (u_X7_readGale E d r n).1 x1 h hL hF)
theorem dX7_readIsle_0 : decode cX7_readIsle 0 = .ok (.aload_n 0, 1) := by decide +kernel
theorem dX7_readIsle_1 : decode cX7_readIsle 1 = .ok (.getfield 76, 3) := by decide +kernel
theorem dX7_readIsle_4 : decode cX7_readIsle 4 = .ok (.getfield 158, 3) := by decide +kernel
theorem dX7_readIsle_7 : decode cX7_readIsle 7 = .ok (.astore_n 2, 1) := by decide +kernel
theorem dX7_readIsle_8 : decode cX7_readIsle 8 = .ok (.aload_n 2, 1) := by decide +kernel
theorem dX7_readIsle_9 : decode cX7_readIsle 9 = .ok (.getfield 201, 3) := by decide +kernel
theorem dX7_readIsle_12 : decode cX7_readIsle 12 = .ok (.istore_n 3, 1) := by decide +kernel
theorem dX7_readIsle_13 : decode cX7_readIsle 13 = .ok (.iload_n 3, 1) := by decide +kernel
theorem dX7_readIsle_14 : decode cX7_readIsle 14 = .ok (.ifCond .lt 8, 3) := by decide +kernel
theorem dX7_readIsle_17 : decode cX7_readIsle 17 = .ok (.iload_n 3, 1) := by decide +kernel
theorem dX7_readIsle_18 : decode cX7_readIsle 18 = .ok (.iconst 3, 1) := by decide +kernel
theorem dX7_readIsle_19 : decode cX7_readIsle 19 = .ok (.if_icmp .lt 10, 3) := by decide +kernel
theorem dX7_readIsle_22 : decode cX7_readIsle 22 = .ok (.aload_n 0, 1) := by decide +kernel
theorem dX7_readIsle_23 : decode cX7_readIsle 23 = .ok (.iconst 2, 1) := by decide +kernel
theorem dX7_readIsle_24 : decode cX7_readIsle 24 = .ok (.iload_n 1, 1) := by decide +kernel
theorem dX7_readIsle_25 : decode cX7_readIsle 25 = .ok (.invokevirtual 149, 3) := by decide +kernel
theorem dX7_readIsle_28 : decode cX7_readIsle 28 = .ok (.ireturn, 1) := by decide +kernel
theorem dX7_readIsle_29 : decode cX7_readIsle 29 = .ok (.aload_n 0, 1) := by decide +kernel
theorem dX7_readIsle_30 : decode cX7_readIsle 30 = .ok (.getfield 26, 3) := by decide +kernel
theorem dX7_readIsle_33 : decode cX7_readIsle 33 = .ok (.iconst 1, 1) := by decide +kernel
theorem dX7_readIsle_34 : decode cX7_readIsle 34 = .ok (.if_icmp .eq 13, 3) := by decide +kernel
theorem dX7_readIsle_37 : decode cX7_readIsle 37 = .ok (.aload_n 0, 1) := by decide +kernel
theorem dX7_readIsle_38 : decode cX7_readIsle 38 = .ok (.iconst 1, 1) := by decide +kernel
theorem dX7_readIsle_39 : decode cX7_readIsle 39 = .ok (.aload_n 0, 1) := by decide +kernel
theorem dX7_readIsle_40 : decode cX7_readIsle 40 = .ok (.getfield 29, 3) := by decide +kernel
theorem dX7_readIsle_43 : decode cX7_readIsle 43 = .ok (.invokevirtual 149, 3) := by decide +kernel
theorem dX7_readIsle_46 : decode cX7_readIsle 46 = .ok (.ireturn, 1) := by decide +kernel
theorem dX7_readIsle_47 : decode cX7_readIsle 47 = .ok (.aload_n 2, 1) := by decide +kernel
theorem dX7_readIsle_48 : decode cX7_readIsle 48 = .ok (.aload_n 0, 1) := by decide +kernel
theorem dX7_readIsle_49 : decode cX7_readIsle 49 = .ok (.getfield 32, 3) := by decide +kernel
theorem dX7_readIsle_52 : decode cX7_readIsle 52 = .ok (.invokevirtual 204, 3) := by decide +kernel
theorem dX7_readIsle_55 : decode cX7_readIsle 55 = .ok (.iconst (-1), 1) := by decide +kernel
theorem dX7_readIsle_56 : decode cX7_readIsle 56 = .ok (.if_icmp .eq 13, 3) := by decide +kernel
theorem dX7_readIsle_59 : decode cX7_readIsle 59 = .ok (.aload_n 0, 1) := by decide +kernel
theorem dX7_readIsle_60 : decode cX7_readIsle 60 = .ok (.iconst 3, 1) := by decide +kernel
theorem dX7_readIsle_61 : decode cX7_readIsle 61 = .ok (.aload_n 0, 1) := by decide +kernel
theorem dX7_readIsle_62 : decode cX7_readIsle 62 = .ok (.getfield 29, 3) := by decide +kernel
theorem dX7_readIsle_65 : decode cX7_readIsle 65 = .ok (.invokevirtual 149, 3) := by decide +kernel
theorem dX7_readIsle_68 : decode cX7_readIsle 68 = .ok (.ireturn, 1) := by decide +kernel
theorem dX7_readIsle_69 : decode cX7_readIsle 69 = .ok (.aload_n 2, 1) := by decide +kernel
theorem dX7_readIsle_70 : decode cX7_readIsle 70 = .ok (.getfield 208, 3) := by decide +kernel
theorem dX7_readIsle_73 : decode cX7_readIsle 73 = .ok (.iload_n 3, 1) := by decide +kernel
theorem dX7_readIsle_74 : decode cX7_readIsle 74 = .ok (.aload_n 0, 1) := by decide +kernel
theorem dX7_readIsle_75 : decode cX7_readIsle 75 = .ok (.getfield 32, 3) := by decide +kernel
theorem dX7_readIsle_78 : decode cX7_readIsle 78 = .ok (.iastore, 1) := by decide +kernel
theorem dX7_readIsle_79 : decode cX7_readIsle 79 = .ok (.aload_n 0, 1) := by decide +kernel
theorem dX7_readIsle_80 : decode cX7_readIsle 80 = .ok (.invokevirtual 89, 3) := by decide +kernel
theorem dX7_readIsle_83 : decode cX7_readIsle 83 = .ok (.aload_n 0, 1) := by decide +kernel
theorem dX7_readIsle_84 : decode cX7_readIsle 84 = .ok (.invokevirtual 198, 3) := by decide +kernel
theorem dX7_readIsle_87 : decode cX7_readIsle 87 = .ok (.ifCond .ne 5, 3) := by decide +kernel
theorem dX7_readIsle_90 : decode cX7_readIsle 90 = .ok (.iconst 0, 1) := by decide +kernel
theorem dX7_readIsle_91 : decode cX7_readIsle 91 = .ok (.ireturn, 1) := by decide +kernel
theorem dX7_readIsle_92 : decode cX7_readIsle 92 = .ok (.aload_n 2, 1) := by decide +kernel
theorem dX7_readIsle_93 : decode cX7_readIsle 93 = .ok (.getfield 211, 3) := by decide +kernel
theorem dX7_readIsle_96 : decode cX7_readIsle 96 = .ok (.iload_n 3, 1) := by decide +kernel
theorem dX7_readIsle_97 : decode cX7_readIsle 97 = .ok (.aload_n 0, 1) := by decide +kernel
theorem dX7_readIsle_98 : decode cX7_readIsle 98 = .ok (.getfield 41, 3) := by decide +kernel
theorem dX7_readIsle_101 : decode cX7_readIsle 101 = .ok (.iastore, 1) := by decide +kernel
theorem dX7_readIsle_102 : decode cX7_readIsle 102 = .ok (.aload_n 0, 1) := by decide +kernel
theorem dX7_readIsle_103 : decode cX7_readIsle 103 = .ok (.iconst 0, 1) := by decide +kernel
theorem dX7_readIsle_104 : decode cX7_readIsle 104 = .ok (.bipush 9, 2) := by decide +kernel
theorem dX7_readIsle_106 : decode cX7_readIsle 106 = .ok (.invokevirtual 167, 3) := by decide +kernel
theorem dX7_readIsle_109 : decode cX7_readIsle 109 = .ok (.ifCond .ne 5, 3) := by decide +kernel
theorem dX7_readIsle_112 : decode cX7_readIsle 112 = .ok (.iconst 0, 1) := by decide +kernel
theorem dX7_readIsle_113 : decode cX7_readIsle 113 = .ok (.ireturn, 1) := by decide +kernel
theorem dX7_readIsle_114 : decode cX7_readIsle 114 = .ok (.aload_n 2, 1) := by decide +kernel
theorem dX7_readIsle_115 : decode cX7_readIsle 115 = .ok (.getfield 214, 3) := by decide +kernel
theorem dX7_readIsle_118 : decode cX7_readIsle 118 = .ok (.iload_n 3, 1) := by decide +kernel
theorem dX7_readIsle_119 : decode cX7_readIsle 119 = .ok (.aload_n 0, 1) := by decide +kernel
theorem dX7_readIsle_120 : decode cX7_readIsle 120 = .ok (.getfield 41, 3) := by decide +kernel
theorem dX7_readIsle_123 : decode cX7_readIsle 123 = .ok (.iastore, 1) := by decide +kernel
theorem dX7_readIsle_124 : decode cX7_readIsle 124 = .ok (.aload_n 0, 1) := by decide +kernel
theorem dX7_readIsle_125 : decode cX7_readIsle 125 = .ok (.iconst 1, 1) := by decide +kernel
theorem dX7_readIsle_126 : decode cX7_readIsle 126 = .ok (.bipush 9, 2) := by decide +kernel
theorem dX7_readIsle_128 : decode cX7_readIsle 128 = .ok (.invokevirtual 167, 3) := by decide +kernel
theorem dX7_readIsle_131 : decode cX7_readIsle 131 = .ok (.ifCond .ne 5, 3) := by decide +kernel
theorem dX7_readIsle_134 : decode cX7_readIsle 134 = .ok (.iconst 0, 1) := by decide +kernel
theorem dX7_readIsle_135 : decode cX7_readIsle 135 = .ok (.ireturn, 1) := by decide +kernel
theorem dX7_readIsle_136 : decode cX7_readIsle 136 = .ok (.aload_n 2, 1) := by decide +kernel
theorem dX7_readIsle_137 : decode cX7_readIsle 137 = .ok (.getfield 217, 3) := by decide +kernel
theorem dX7_readIsle_140 : decode cX7_readIsle 140 = .ok (.iload_n 3, 1) := by decide +kernel
theorem dX7_readIsle_141 : decode cX7_readIsle 141 = .ok (.aload_n 0, 1) := by decide +kernel
theorem dX7_readIsle_142 : decode cX7_readIsle 142 = .ok (.getfield 41, 3) := by decide +kernel
theorem dX7_readIsle_145 : decode cX7_readIsle 145 = .ok (.iastore, 1) := by decide +kernel
theorem dX7_readIsle_146 : decode cX7_readIsle 146 = .ok (.aload_n 0, 1) := by decide +kernel
theorem dX7_readIsle_147 : decode cX7_readIsle 147 = .ok (.dup, 1) := by decide +kernel
theorem dX7_readIsle_148 : decode cX7_readIsle 148 = .ok (.getfield 47, 3) := by decide +kernel
theorem dX7_readIsle_151 : decode cX7_readIsle 151 = .ok (.bipush 16, 2) := by decide +kernel
theorem dX7_readIsle_153 : decode cX7_readIsle 153 = .ok (.ior, 1) := by decide +kernel
theorem dX7_readIsle_154 : decode cX7_readIsle 154 = .ok (.putfield 47, 3) := by decide +kernel
theorem dX7_readIsle_157 : decode cX7_readIsle 157 = .ok (.aload_n 2, 1) := by decide +kernel
theorem dX7_readIsle_158 : decode cX7_readIsle 158 = .ok (.dup, 1) := by decide +kernel
theorem dX7_readIsle_159 : decode cX7_readIsle 159 = .ok (.getfield 201, 3) := by decide +kernel
theorem dX7_readIsle_162 : decode cX7_readIsle 162 = .ok (.iconst 1, 1) := by decide +kernel
theorem dX7_readIsle_163 : decode cX7_readIsle 163 = .ok (.iadd, 1) := by decide +kernel
theorem dX7_readIsle_164 : decode cX7_readIsle 164 = .ok (.putfield 201, 3) := by decide +kernel
theorem dX7_readIsle_167 : decode cX7_readIsle 167 = .ok (.iconst 1, 1) := by decide +kernel
theorem dX7_readIsle_168 : decode cX7_readIsle 168 = .ok (.ireturn, 1) := by decide +kernel
noncomputable def b_X7_readIsle_0 (rec : Rk) (n : Nat) (x1 : Int) (h : Hp) : Option (Int × Hp) :=
  rf (gR h 7 0 1) 0 fun j1 =>
  lt (gI h 9 j1 6) fun z2 =>
  if z2 < 0 then (
    rec 1 [x1] h
  ) else (
    if z2 < 3 then (
      if (gI h 7 0 6) = 1 then (
        bd (f_X9_isleNamed n j1 (gI h 7 0 8) h) fun v3 h4 =>
        if v3 = (-1) then (
          ck (0 ≤ z2 ∧ z2 < 3) <|
          lt (sI h4 51 j1 z2 (gI h4 7 0 8)) fun h5 =>
          bd (f_X7_advance n h5) fun v6 h7 =>
          bd (f_X7_readCellOfWater n h7) fun v8 h9 =>
          if v8 = 0 then (
            some (0, h9)
          ) else (
            ck (0 ≤ z2 ∧ z2 < 3) <|
            lt (sI h9 52 j1 z2 (gI h9 7 0 11)) fun h10 =>
            bd (f_X7_readNumber n 0 9 h10) fun v11 h12 =>
            if v11 = 0 then (
              some (0, h12)
            ) else (
              ck (0 ≤ z2 ∧ z2 < 3) <|
              lt (sI h12 53 j1 z2 (gI h12 7 0 11)) fun h13 =>
              bd (f_X7_readNumber n 1 9 h13) fun v14 h15 =>
              if v14 = 0 then (
                some (0, h15)
              ) else (
                ck (0 ≤ z2 ∧ z2 < 3) <|
                lt (sI h15 54 j1 z2 (gI h15 7 0 11)) fun h16 =>
                lt (sI h16 7 0 13 (bor (gI h16 7 0 13) 16)) fun h17 =>
                ck (-2147483648 ≤ (gI h17 9 j1 6) + 1 ∧ (gI h17 9 j1 6) + 1 < 2147483648) <|
                lt (sI h17 9 j1 6 ((gI h17 9 j1 6) + 1)) fun h18 =>
                some (1, h18)
              )
            )
          )
        ) else (
          bd (f_X7_wrong n 3 (gI h4 7 0 7) h4) fun v19 h20 =>
          ck (0 ≤ v19 ∧ v19 < 2) <|
          some (v19, h20)
        )
      ) else (
        bd (f_X7_wrong n 1 (gI h 7 0 7) h) fun v21 h22 =>
        ck (0 ≤ v21 ∧ v21 < 2) <|
        some (v21, h22)
      )
    ) else (
      rec 1 [x1] h
    )
  )
noncomputable def b_X7_readIsle_1 (rec : Rk) (n : Nat) (x1 : Int) (h : Hp) : Option (Int × Hp) :=
  bd (f_X7_wrong n 2 x1 h) fun v1 h2 =>
  ck (0 ≤ v1 ∧ v1 < 2) <|
  some (v1, h2)
noncomputable def g_X7_readIsle (n : Nat) : Rk := Nat.rec (motive := fun _ => Rk) (fun _ _ _ => none) (fun n rec k l h => if k = 0 then b_X7_readIsle_0 rec n (l.getD 0 0) h else if k = 1 then b_X7_readIsle_1 rec n (l.getD 0 0) h else none) n
noncomputable def f_X7_readIsle (n : Nat) (x1 : Int) (h : Hp) : Option (Int × Hp) := g_X7_readIsle n 0 [x1] h
set_option maxHeartbeats 4000000 in
set_option maxRecDepth 100000 in
theorem t_X7_readIsle_0 (E : xE) (d : Nat) (rec : Rk) (n : Nat) (r : Int × Hp) (hr_22 : ∀ (x1 : Int) (h : Hp), Lay h → rec 1 [x1] h = some r → X E mX7_readIsle (d + 5) (0, 0) (0, 0) 22 [some (xr 7 0), some (xi x1), none, none] [] h (PoI r)) (x1 : Int) (h : Hp) (hL : Lay h) (hF : b_X7_readIsle_0 rec n x1 h = some r) : X E mX7_readIsle (d + 5) (0, 0) (0, 0) 0 [some (xr 7 0), some (xi x1), none, none] [] h (PoI r) := by
  unfold b_X7_readIsle_0 at hF
  refine x_aload_n (i := 0) (b := 1) dX7_readIsle_0 rfl rfl rfl ?_
  obtain ⟨j1, e_j1, hF⟩ := rf_e hF
  refine x_getR (v := some (0, j1)) (b := 4) fk_X7_76 dX7_readIsle_1 rfl e_j1 rfl ?_
  refine x_getL (j := j1) (t := (9, 0, true)) (b := 7) fk_X7_158 dX7_readIsle_4 rfl hL rfl rfl rfl ?_
  refine x_astore_n (i := 2) (b := 8) (ls2 := [some (xr 7 0), some (xi x1), some (xr 9 j1), none]) dX7_readIsle_7 rfl (Nat.le_of_ble_eq_true rfl) rfl rfl ?_
  refine x_aload_n (i := 2) (b := 9) dX7_readIsle_8 rfl rfl rfl ?_
  refine x_getI (v := gI h 9 j1 6) (b := 12) fk_X7_201 dX7_readIsle_9 (by decide) rfl rfl ?_
  obtain ⟨z2, e_z2, hF⟩ := lt_e hF
  refine x_eq (y := z2) e_z2 ?_
  refine x_istore_n (i := 3) (b := 13) (ls2 := [some (xr 7 0), some (xi x1), some (xr 9 j1), some (xi z2)]) dX7_readIsle_12 rfl (Nat.le_of_ble_eq_true rfl) rfl rfl ?_
  refine x_iload_n (i := 3) (b := 14) dX7_readIsle_13 rfl rfl rfl ?_
  refine x_if_lt (tgt := 22) (b := 17) dX7_readIsle_14 (by decide) rfl (fun hc => ?_) (fun hc => ?_)
  · replace hF := br_T hc hF
    exact x_dp (ls2 := [some (xr 7 0), some (xi x1), none, none]) ⟨rfl, rfl, trivial⟩ (hr_22 x1 h hL hF)
  · replace hF := br_F hc hF
    refine x_iload_n (i := 3) (b := 18) dX7_readIsle_17 rfl rfl rfl ?_
    refine x_iconst (n := 3) (b := 19) dX7_readIsle_18 (by decide) rfl ?_
    refine x_icmp_lt (tgt := 29) (b := 22) dX7_readIsle_19 (by decide) rfl (fun hc => ?_) (fun hc => ?_)
    · replace hF := br_T hc hF
      refine x_aload_n (i := 0) (b := 30) dX7_readIsle_29 rfl rfl rfl ?_
      refine x_getI (v := gI h 7 0 6) (b := 33) fk_X7_26 dX7_readIsle_30 (by decide) rfl rfl ?_
      refine x_iconst (n := 1) (b := 34) dX7_readIsle_33 (by decide) rfl ?_
      refine x_icmp_eq (tgt := 47) (b := 37) dX7_readIsle_34 (by decide) rfl (fun hc => ?_) (fun hc => ?_)
      · replace hF := br_T hc hF
        refine x_aload_n (i := 2) (b := 48) dX7_readIsle_47 rfl rfl rfl ?_
        refine x_aload_n (i := 0) (b := 49) dX7_readIsle_48 rfl rfl rfl ?_
        refine x_getI (v := gI h 7 0 8) (b := 52) fk_X7_32 dX7_readIsle_49 (by decide) rfl rfl ?_
        obtain ⟨v3, h4, hq, hF⟩ := bd_e hF
        refine x_callV (as := [xi (gI h 7 0 8)]) (rest := []) (b := 55) (c_X9_isleNamed (d + 3) n j1 (gI h 7 0 8) h _ hL hq) dX7_readIsle_52 cw_X7_204 ⟨_, _, rfl, Nat.le_of_ble_eq_true rfl⟩ rfl rfl (Nat.le_of_ble_eq_true rfl) ⟨Nat.le_refl _, Nat.le_refl _⟩ rfl (fun rv hh hp _ => ?_)
        obtain ⟨rfl, rfl, hL⟩ := hp
        refine x_iconst (n := (-1)) (b := 56) dX7_readIsle_55 (by decide) rfl ?_
        refine x_icmp_eq (tgt := 69) (b := 59) dX7_readIsle_56 (by decide) rfl (fun hc => ?_) (fun hc => ?_)
        · replace hF := br_T hc hF
          refine x_aload_n (i := 2) (b := 70) dX7_readIsle_69 rfl rfl rfl ?_
          refine x_getL (j := j1) (t := (51, 0, true)) (b := 73) fk_X7_208 dX7_readIsle_70 rfl hL rfl rfl rfl ?_
          refine x_iload_n (i := 3) (b := 74) dX7_readIsle_73 rfl rfl rfl ?_
          refine x_aload_n (i := 0) (b := 75) dX7_readIsle_74 rfl rfl rfl ?_
          refine x_getI (v := gI h4 7 0 8) (b := 78) fk_X7_32 dX7_readIsle_75 (by decide) rfl rfl ?_
          obtain ⟨hs, hF⟩ := ck_e hF
          have hs1 := hs
          refine x_iast (b := 79) ak_51 dX7_readIsle_78 hs1 rfl ?_
          obtain ⟨h5, e_h5, hF⟩ := lt_e hF
          refine x_hp (h2 := h5) e_h5 ?_
          replace hL : Lay h5 := by rw [← e_h5]; exact hL
          refine x_aload_n (i := 0) (b := 80) dX7_readIsle_79 rfl rfl rfl ?_
          obtain ⟨v6, h7, hq, hF⟩ := bd_e hF
          refine x_callV (as := []) (rest := []) (b := 83) (c_X7_advance (d + 3) n h5 _ hL hq) dX7_readIsle_80 cw_X7_89 ⟨_, _, rfl, Nat.le_of_ble_eq_true rfl⟩ rfl rfl (Nat.le_of_ble_eq_true rfl) ⟨Nat.le_refl _, Nat.le_refl _⟩ rfl (fun rv hh hp _ => ?_)
          obtain ⟨rfl, rfl, hL⟩ := hp
          refine x_aload_n (i := 0) (b := 84) dX7_readIsle_83 rfl rfl rfl ?_
          obtain ⟨v8, h9, hq, hF⟩ := bd_e hF
          refine x_callV (as := []) (rest := []) (b := 87) (c_X7_readCellOfWater d n h7 _ hL hq) dX7_readIsle_84 cw_X7_198 ⟨_, _, rfl, Nat.le_of_ble_eq_true rfl⟩ rfl rfl (Nat.le_of_ble_eq_true rfl) ⟨Nat.le_refl _, Nat.le_refl _⟩ rfl (fun rv hh hp _ => ?_)
          obtain ⟨rfl, rfl, hL⟩ := hp
          refine x_if_ne (tgt := 92) (b := 90) dX7_readIsle_87 (by decide) rfl (fun hc => ?_) (fun hc => ?_)
          · replace hF := br_F hc hF
            refine x_aload_n (i := 2) (b := 93) dX7_readIsle_92 rfl rfl rfl ?_
            refine x_getL (j := j1) (t := (52, 0, true)) (b := 96) fk_X7_211 dX7_readIsle_93 rfl hL rfl rfl rfl ?_
            refine x_iload_n (i := 3) (b := 97) dX7_readIsle_96 rfl rfl rfl ?_
            refine x_aload_n (i := 0) (b := 98) dX7_readIsle_97 rfl rfl rfl ?_
            refine x_getI (v := gI h9 7 0 11) (b := 101) fk_X7_41 dX7_readIsle_98 (by decide) rfl rfl ?_
            obtain ⟨hs, hF⟩ := ck_e hF
            have hs1 := hs
            refine x_iast (b := 102) ak_52 dX7_readIsle_101 hs1 rfl ?_
            obtain ⟨h10, e_h10, hF⟩ := lt_e hF
            refine x_hp (h2 := h10) e_h10 ?_
            replace hL : Lay h10 := by rw [← e_h10]; exact hL
            refine x_aload_n (i := 0) (b := 103) dX7_readIsle_102 rfl rfl rfl ?_
            refine x_iconst (n := 0) (b := 104) dX7_readIsle_103 (by decide) rfl ?_
            refine x_bipush (n := 9) (b := 106) dX7_readIsle_104 (by decide) rfl ?_
            obtain ⟨v11, h12, hq, hF⟩ := bd_e hF
            refine x_callV (as := [xi 0, xi 9]) (rest := []) (b := 109) (c_X7_readNumber (d + 2) n 0 9 h10 _ hL hq) dX7_readIsle_106 cw_X7_167 ⟨_, _, rfl, Nat.le_of_ble_eq_true rfl⟩ rfl rfl (Nat.le_of_ble_eq_true rfl) ⟨Nat.le_refl _, Nat.le_refl _⟩ rfl (fun rv hh hp _ => ?_)
            obtain ⟨rfl, rfl, hL⟩ := hp
            refine x_if_ne (tgt := 114) (b := 112) dX7_readIsle_109 (by decide) rfl (fun hc => ?_) (fun hc => ?_)
            · replace hF := br_F hc hF
              refine x_aload_n (i := 2) (b := 115) dX7_readIsle_114 rfl rfl rfl ?_
              refine x_getL (j := j1) (t := (53, 0, true)) (b := 118) fk_X7_214 dX7_readIsle_115 rfl hL rfl rfl rfl ?_
              refine x_iload_n (i := 3) (b := 119) dX7_readIsle_118 rfl rfl rfl ?_
              refine x_aload_n (i := 0) (b := 120) dX7_readIsle_119 rfl rfl rfl ?_
              refine x_getI (v := gI h12 7 0 11) (b := 123) fk_X7_41 dX7_readIsle_120 (by decide) rfl rfl ?_
              obtain ⟨hs, hF⟩ := ck_e hF
              have hs1 := hs
              refine x_iast (b := 124) ak_53 dX7_readIsle_123 hs1 rfl ?_
              obtain ⟨h13, e_h13, hF⟩ := lt_e hF
              refine x_hp (h2 := h13) e_h13 ?_
              replace hL : Lay h13 := by rw [← e_h13]; exact hL
              refine x_aload_n (i := 0) (b := 125) dX7_readIsle_124 rfl rfl rfl ?_
              refine x_iconst (n := 1) (b := 126) dX7_readIsle_125 (by decide) rfl ?_
              refine x_bipush (n := 9) (b := 128) dX7_readIsle_126 (by decide) rfl ?_
              obtain ⟨v14, h15, hq, hF⟩ := bd_e hF
              refine x_callV (as := [xi 1, xi 9]) (rest := []) (b := 131) (c_X7_readNumber (d + 2) n 1 9 h13 _ hL hq) dX7_readIsle_128 cw_X7_167 ⟨_, _, rfl, Nat.le_of_ble_eq_true rfl⟩ rfl rfl (Nat.le_of_ble_eq_true rfl) ⟨Nat.le_refl _, Nat.le_refl _⟩ rfl (fun rv hh hp _ => ?_)
              obtain ⟨rfl, rfl, hL⟩ := hp
              refine x_if_ne (tgt := 136) (b := 134) dX7_readIsle_131 (by decide) rfl (fun hc => ?_) (fun hc => ?_)
              · replace hF := br_F hc hF
                refine x_aload_n (i := 2) (b := 137) dX7_readIsle_136 rfl rfl rfl ?_
                refine x_getL (j := j1) (t := (54, 0, true)) (b := 140) fk_X7_217 dX7_readIsle_137 rfl hL rfl rfl rfl ?_
                refine x_iload_n (i := 3) (b := 141) dX7_readIsle_140 rfl rfl rfl ?_
                refine x_aload_n (i := 0) (b := 142) dX7_readIsle_141 rfl rfl rfl ?_
                refine x_getI (v := gI h15 7 0 11) (b := 145) fk_X7_41 dX7_readIsle_142 (by decide) rfl rfl ?_
                obtain ⟨hs, hF⟩ := ck_e hF
                have hs1 := hs
                refine x_iast (b := 146) ak_54 dX7_readIsle_145 hs1 rfl ?_
                obtain ⟨h16, e_h16, hF⟩ := lt_e hF
                refine x_hp (h2 := h16) e_h16 ?_
                replace hL : Lay h16 := by rw [← e_h16]; exact hL
                refine x_aload_n (i := 0) (b := 147) dX7_readIsle_146 rfl rfl rfl ?_
                refine x_dup (b := 148) dX7_readIsle_147 rfl rfl ?_
                refine x_getI (v := gI h16 7 0 13) (b := 151) fk_X7_47 dX7_readIsle_148 (by decide) rfl rfl ?_
                refine x_bipush (n := 16) (b := 153) dX7_readIsle_151 (by decide) rfl ?_
                refine x_ior (b := 154) dX7_readIsle_153 rfl ?_
                refine x_putI (b := 157) fk_X7_47 dX7_readIsle_154 rfl rfl 13 rfl ?_
                obtain ⟨h17, e_h17, hF⟩ := lt_e hF
                refine x_hp (h2 := h17) e_h17 ?_
                replace hL : Lay h17 := by rw [← e_h17]; exact hL
                refine x_aload_n (i := 2) (b := 158) dX7_readIsle_157 rfl rfl rfl ?_
                refine x_dup (b := 159) dX7_readIsle_158 rfl rfl ?_
                refine x_getI (v := gI h17 9 j1 6) (b := 162) fk_X7_201 dX7_readIsle_159 (by decide) rfl rfl ?_
                refine x_iconst (n := 1) (b := 163) dX7_readIsle_162 (by decide) rfl ?_
                obtain ⟨hs, hF⟩ := ck_e hF
                refine x_iadd (b := 164) dX7_readIsle_163 hs rfl ?_
                refine x_putI (b := 167) fk_X7_201 dX7_readIsle_164 rfl rfl 6 rfl ?_
                obtain ⟨h18, e_h18, hF⟩ := lt_e hF
                refine x_hp (h2 := h18) e_h18 ?_
                replace hL : Lay h18 := by rw [← e_h18]; exact hL
                refine x_iconst (n := 1) (b := 168) dX7_readIsle_167 (by decide) rfl ?_
                refine x_zreturn dX7_readIsle_168 rfl ⟨Nat.le_refl _, Nat.le_refl _⟩ (by decide) ?_
                cases hF
                exact ⟨rfl, rfl, hL⟩
              · replace hF := br_T hc hF
                refine x_iconst (n := 0) (b := 135) dX7_readIsle_134 (by decide) rfl ?_
                refine x_zreturn dX7_readIsle_135 rfl ⟨Nat.le_refl _, Nat.le_refl _⟩ (by decide) ?_
                cases hF
                exact ⟨rfl, rfl, hL⟩
            · replace hF := br_T hc hF
              refine x_iconst (n := 0) (b := 113) dX7_readIsle_112 (by decide) rfl ?_
              refine x_zreturn dX7_readIsle_113 rfl ⟨Nat.le_refl _, Nat.le_refl _⟩ (by decide) ?_
              cases hF
              exact ⟨rfl, rfl, hL⟩
          · replace hF := br_T hc hF
            refine x_iconst (n := 0) (b := 91) dX7_readIsle_90 (by decide) rfl ?_
            refine x_zreturn dX7_readIsle_91 rfl ⟨Nat.le_refl _, Nat.le_refl _⟩ (by decide) ?_
            cases hF
            exact ⟨rfl, rfl, hL⟩
        · replace hF := br_F hc hF
          refine x_aload_n (i := 0) (b := 60) dX7_readIsle_59 rfl rfl rfl ?_
          refine x_iconst (n := 3) (b := 61) dX7_readIsle_60 (by decide) rfl ?_
          refine x_aload_n (i := 0) (b := 62) dX7_readIsle_61 rfl rfl rfl ?_
          refine x_getI (v := gI h4 7 0 7) (b := 65) fk_X7_29 dX7_readIsle_62 (by decide) rfl rfl ?_
          obtain ⟨v19, h20, hq, hF⟩ := bd_e hF
          refine x_callV (as := [xi 3, xi (gI h4 7 0 7)]) (rest := []) (b := 68) (c_X7_wrong (d + 3) n 3 (gI h4 7 0 7) h4 _ hL hq) dX7_readIsle_65 cw_X7_149 ⟨_, _, rfl, Nat.le_of_ble_eq_true rfl⟩ rfl rfl (Nat.le_of_ble_eq_true rfl) ⟨Nat.le_refl _, Nat.le_refl _⟩ rfl (fun rv hh hp _ => ?_)
          obtain ⟨rfl, rfl, hL⟩ := hp
          obtain ⟨hs, hF⟩ := ck_e hF
          refine x_zreturn dX7_readIsle_68 rfl ⟨Nat.le_refl _, Nat.le_refl _⟩ hs ?_
          cases hF
          exact ⟨rfl, rfl, hL⟩
      · replace hF := br_F hc hF
        refine x_aload_n (i := 0) (b := 38) dX7_readIsle_37 rfl rfl rfl ?_
        refine x_iconst (n := 1) (b := 39) dX7_readIsle_38 (by decide) rfl ?_
        refine x_aload_n (i := 0) (b := 40) dX7_readIsle_39 rfl rfl rfl ?_
        refine x_getI (v := gI h 7 0 7) (b := 43) fk_X7_29 dX7_readIsle_40 (by decide) rfl rfl ?_
        obtain ⟨v21, h22, hq, hF⟩ := bd_e hF
        refine x_callV (as := [xi 1, xi (gI h 7 0 7)]) (rest := []) (b := 46) (c_X7_wrong (d + 3) n 1 (gI h 7 0 7) h _ hL hq) dX7_readIsle_43 cw_X7_149 ⟨_, _, rfl, Nat.le_of_ble_eq_true rfl⟩ rfl rfl (Nat.le_of_ble_eq_true rfl) ⟨Nat.le_refl _, Nat.le_refl _⟩ rfl (fun rv hh hp _ => ?_)
        obtain ⟨rfl, rfl, hL⟩ := hp
        obtain ⟨hs, hF⟩ := ck_e hF
        refine x_zreturn dX7_readIsle_46 rfl ⟨Nat.le_refl _, Nat.le_refl _⟩ hs ?_
        cases hF
        exact ⟨rfl, rfl, hL⟩
    · replace hF := br_F hc hF
      exact x_dp (ls2 := [some (xr 7 0), some (xi x1), none, none]) ⟨rfl, rfl, trivial⟩ (hr_22 x1 h hL hF)
set_option maxHeartbeats 4000000 in
set_option maxRecDepth 100000 in
theorem t_X7_readIsle_1 (E : xE) (d : Nat) (rec : Rk) (n : Nat) (r : Int × Hp) (x1 : Int) (h : Hp) (hL : Lay h) (hF : b_X7_readIsle_1 rec n x1 h = some r) : X E mX7_readIsle (d + 5) (0, 0) (0, 0) 22 [some (xr 7 0), some (xi x1), none, none] [] h (PoI r) := by
  unfold b_X7_readIsle_1 at hF
  refine x_aload_n (i := 0) (b := 23) dX7_readIsle_22 rfl rfl rfl ?_
  refine x_iconst (n := 2) (b := 24) dX7_readIsle_23 (by decide) rfl ?_
  refine x_iload_n (i := 1) (b := 25) dX7_readIsle_24 rfl rfl rfl ?_
  obtain ⟨v1, h2, hq, hF⟩ := bd_e hF
  refine x_callV (as := [xi 2, xi x1]) (rest := []) (b := 28) (c_X7_wrong (d + 3) n 2 x1 h _ hL hq) dX7_readIsle_25 cw_X7_149 ⟨_, _, rfl, Nat.le_of_ble_eq_true rfl⟩ rfl rfl (Nat.le_of_ble_eq_true rfl) ⟨Nat.le_refl _, Nat.le_refl _⟩ rfl (fun rv hh hp _ => ?_)
  obtain ⟨rfl, rfl, hL⟩ := hp
  obtain ⟨hs, hF⟩ := ck_e hF
  refine x_zreturn dX7_readIsle_28 rfl ⟨Nat.le_refl _, Nat.le_refl _⟩ hs ?_
  cases hF
  exact ⟨rfl, rfl, hL⟩
set_option maxHeartbeats 4000000 in
set_option maxRecDepth 100000 in
theorem u_X7_readIsle (E : xE) (d : Nat) (r : Int × Hp) : ∀ n : Nat, (∀ (x1 : Int) (h : Hp), Lay h → g_X7_readIsle n 0 [x1] h = some r → X E mX7_readIsle (d + 5) (0, 0) (0, 0) 0 [some (xr 7 0), some (xi x1), none, none] [] h (PoI r)) ∧ (∀ (x1 : Int) (h : Hp), Lay h → g_X7_readIsle n 1 [x1] h = some r → X E mX7_readIsle (d + 5) (0, 0) (0, 0) 22 [some (xr 7 0), some (xi x1), none, none] [] h (PoI r)) := by
  intro n
  induction n with
  | zero => exact ⟨fun _ _ _ hF => no_e (r := r) hF, fun _ _ _ hF => no_e (r := r) hF⟩
  | succ n ih => exact ⟨fun x1 h hL hF => t_X7_readIsle_0 E d (g_X7_readIsle n) n r ih.2 x1 h hL hF, fun x1 h hL hF => t_X7_readIsle_1 E d (g_X7_readIsle n) n r  x1 h hL hF⟩
theorem c_X7_readIsle (d n : Nat) (x1 : Int) (h : Hp) (r : Int × Hp) (hL : Lay h) (hF : f_X7_readIsle n x1 h = some r) : Sp mX7_readIsle (d + 5) (0, 0) [xr 7 0, xi x1] h (PoI r) :=
  sp_of (by decide) rfl (Nat.le_of_ble_eq_true rfl) (ls := [some (xr 7 0), some (xi x1), none, none]) rfl (fun E _ => (u_X7_readIsle E d r n).1 x1 h hL hF)
theorem dX7_readLand_0 : decode cX7_readLand 0 = .ok (.aload_n 0, 1) := by decide +kernel
theorem dX7_readLand_1 : decode cX7_readLand 1 = .ok (.getfield 76, 3) := by decide +kernel
theorem dX7_readLand_4 : decode cX7_readLand 4 = .ok (.getfield 158, 3) := by decide +kernel
theorem dX7_readLand_7 : decode cX7_readLand 7 = .ok (.astore_n 2, 1) := by decide +kernel
theorem dX7_readLand_8 : decode cX7_readLand 8 = .ok (.aload_n 2, 1) := by decide +kernel
theorem dX7_readLand_9 : decode cX7_readLand 9 = .ok (.getfield 182, 3) := by decide +kernel
theorem dX7_readLand_12 : decode cX7_readLand 12 = .ok (.bipush 20, 2) := by decide +kernel
theorem dX7_readLand_14 : decode cX7_readLand 14 = .ok (.if_icmp .lt 10, 3) := by decide +kernel
theorem dX7_readLand_17 : decode cX7_readLand 17 = .ok (.aload_n 0, 1) := by decide +kernel
theorem dX7_readLand_18 : decode cX7_readLand 18 = .ok (.iconst 2, 1) := by decide +kernel
theorem dX7_readLand_19 : decode cX7_readLand 19 = .ok (.iload_n 1, 1) := by decide +kernel
theorem dX7_readLand_20 : decode cX7_readLand 20 = .ok (.invokevirtual 149, 3) := by decide +kernel
theorem dX7_readLand_23 : decode cX7_readLand 23 = .ok (.ireturn, 1) := by decide +kernel
theorem dX7_readLand_24 : decode cX7_readLand 24 = .ok (.aload_n 0, 1) := by decide +kernel
theorem dX7_readLand_25 : decode cX7_readLand 25 = .ok (.invokevirtual 173, 3) := by decide +kernel
theorem dX7_readLand_28 : decode cX7_readLand 28 = .ok (.ifCond .ne 5, 3) := by decide +kernel
theorem dX7_readLand_31 : decode cX7_readLand 31 = .ok (.iconst 0, 1) := by decide +kernel
theorem dX7_readLand_32 : decode cX7_readLand 32 = .ok (.ireturn, 1) := by decide +kernel
theorem dX7_readLand_33 : decode cX7_readLand 33 = .ok (.aload_n 2, 1) := by decide +kernel
theorem dX7_readLand_34 : decode cX7_readLand 34 = .ok (.aload_n 0, 1) := by decide +kernel
theorem dX7_readLand_35 : decode cX7_readLand 35 = .ok (.getfield 41, 3) := by decide +kernel
theorem dX7_readLand_38 : decode cX7_readLand 38 = .ok (.invokevirtual 176, 3) := by decide +kernel
theorem dX7_readLand_41 : decode cX7_readLand 41 = .ok (.ifCond .eq 13, 3) := by decide +kernel
theorem dX7_readLand_44 : decode cX7_readLand 44 = .ok (.aload_n 0, 1) := by decide +kernel
theorem dX7_readLand_45 : decode cX7_readLand 45 = .ok (.iconst 3, 1) := by decide +kernel
theorem dX7_readLand_46 : decode cX7_readLand 46 = .ok (.aload_n 0, 1) := by decide +kernel
theorem dX7_readLand_47 : decode cX7_readLand 47 = .ok (.getfield 44, 3) := by decide +kernel
theorem dX7_readLand_50 : decode cX7_readLand 50 = .ok (.invokevirtual 149, 3) := by decide +kernel
theorem dX7_readLand_53 : decode cX7_readLand 53 = .ok (.ireturn, 1) := by decide +kernel
theorem dX7_readLand_54 : decode cX7_readLand 54 = .ok (.aload_n 0, 1) := by decide +kernel
theorem dX7_readLand_55 : decode cX7_readLand 55 = .ok (.iconst 2, 1) := by decide +kernel
theorem dX7_readLand_56 : decode cX7_readLand 56 = .ok (.invokevirtual 155, 3) := by decide +kernel
theorem dX7_readLand_59 : decode cX7_readLand 59 = .ok (.ifCond .eq 14, 3) := by decide +kernel
theorem dX7_readLand_62 : decode cX7_readLand 62 = .ok (.aload_n 2, 1) := by decide +kernel
theorem dX7_readLand_63 : decode cX7_readLand 63 = .ok (.getfield 185, 3) := by decide +kernel
theorem dX7_readLand_66 : decode cX7_readLand 66 = .ok (.aload_n 0, 1) := by decide +kernel
theorem dX7_readLand_67 : decode cX7_readLand 67 = .ok (.getfield 41, 3) := by decide +kernel
theorem dX7_readLand_70 : decode cX7_readLand 70 = .ok (.if_icmp .eq 33, 3) := by decide +kernel
theorem dX7_readLand_73 : decode cX7_readLand 73 = .ok (.aload_n 0, 1) := by decide +kernel
theorem dX7_readLand_74 : decode cX7_readLand 74 = .ok (.iconst 3, 1) := by decide +kernel
theorem dX7_readLand_75 : decode cX7_readLand 75 = .ok (.invokevirtual 155, 3) := by decide +kernel
theorem dX7_readLand_78 : decode cX7_readLand 78 = .ok (.ifCond .eq 14, 3) := by decide +kernel
theorem dX7_readLand_81 : decode cX7_readLand 81 = .ok (.aload_n 2, 1) := by decide +kernel
theorem dX7_readLand_82 : decode cX7_readLand 82 = .ok (.getfield 188, 3) := by decide +kernel
theorem dX7_readLand_85 : decode cX7_readLand 85 = .ok (.aload_n 0, 1) := by decide +kernel
theorem dX7_readLand_86 : decode cX7_readLand 86 = .ok (.getfield 41, 3) := by decide +kernel
theorem dX7_readLand_89 : decode cX7_readLand 89 = .ok (.if_icmp .eq 14, 3) := by decide +kernel
theorem dX7_readLand_92 : decode cX7_readLand 92 = .ok (.aload_n 2, 1) := by decide +kernel
theorem dX7_readLand_93 : decode cX7_readLand 93 = .ok (.aload_n 0, 1) := by decide +kernel
theorem dX7_readLand_94 : decode cX7_readLand 94 = .ok (.getfield 41, 3) := by decide +kernel
theorem dX7_readLand_97 : decode cX7_readLand 97 = .ok (.invokevirtual 191, 3) := by decide +kernel
theorem dX7_readLand_100 : decode cX7_readLand 100 = .ok (.ifCond .eq 13, 3) := by decide +kernel
theorem dX7_readLand_103 : decode cX7_readLand 103 = .ok (.aload_n 0, 1) := by decide +kernel
theorem dX7_readLand_104 : decode cX7_readLand 104 = .ok (.iconst 5, 1) := by decide +kernel
theorem dX7_readLand_105 : decode cX7_readLand 105 = .ok (.aload_n 0, 1) := by decide +kernel
theorem dX7_readLand_106 : decode cX7_readLand 106 = .ok (.getfield 44, 3) := by decide +kernel
theorem dX7_readLand_109 : decode cX7_readLand 109 = .ok (.invokevirtual 149, 3) := by decide +kernel
theorem dX7_readLand_112 : decode cX7_readLand 112 = .ok (.ireturn, 1) := by decide +kernel
theorem dX7_readLand_113 : decode cX7_readLand 113 = .ok (.aload_n 0, 1) := by decide +kernel
theorem dX7_readLand_114 : decode cX7_readLand 114 = .ok (.dup, 1) := by decide +kernel
theorem dX7_readLand_115 : decode cX7_readLand 115 = .ok (.getfield 47, 3) := by decide +kernel
theorem dX7_readLand_118 : decode cX7_readLand 118 = .ok (.iconst 2, 1) := by decide +kernel
theorem dX7_readLand_119 : decode cX7_readLand 119 = .ok (.ior, 1) := by decide +kernel
theorem dX7_readLand_120 : decode cX7_readLand 120 = .ok (.putfield 47, 3) := by decide +kernel
theorem dX7_readLand_123 : decode cX7_readLand 123 = .ok (.aload_n 2, 1) := by decide +kernel
theorem dX7_readLand_124 : decode cX7_readLand 124 = .ok (.dup, 1) := by decide +kernel
theorem dX7_readLand_125 : decode cX7_readLand 125 = .ok (.getfield 194, 3) := by decide +kernel
theorem dX7_readLand_128 : decode cX7_readLand 128 = .ok (.lconst 1, 1) := by decide +kernel
theorem dX7_readLand_129 : decode cX7_readLand 129 = .ok (.aload_n 0, 1) := by decide +kernel
theorem dX7_readLand_130 : decode cX7_readLand 130 = .ok (.getfield 41, 3) := by decide +kernel
theorem dX7_readLand_133 : decode cX7_readLand 133 = .ok (.lshl, 1) := by decide +kernel
theorem dX7_readLand_134 : decode cX7_readLand 134 = .ok (.lor, 1) := by decide +kernel
theorem dX7_readLand_135 : decode cX7_readLand 135 = .ok (.putfield 194, 3) := by decide +kernel
theorem dX7_readLand_138 : decode cX7_readLand 138 = .ok (.aload_n 2, 1) := by decide +kernel
theorem dX7_readLand_139 : decode cX7_readLand 139 = .ok (.dup, 1) := by decide +kernel
theorem dX7_readLand_140 : decode cX7_readLand 140 = .ok (.getfield 182, 3) := by decide +kernel
theorem dX7_readLand_143 : decode cX7_readLand 143 = .ok (.iconst 1, 1) := by decide +kernel
theorem dX7_readLand_144 : decode cX7_readLand 144 = .ok (.iadd, 1) := by decide +kernel
theorem dX7_readLand_145 : decode cX7_readLand 145 = .ok (.putfield 182, 3) := by decide +kernel
theorem dX7_readLand_148 : decode cX7_readLand 148 = .ok (.iconst 1, 1) := by decide +kernel
theorem dX7_readLand_149 : decode cX7_readLand 149 = .ok (.ireturn, 1) := by decide +kernel
noncomputable def b_X7_readLand_0 (rec : Rk) (n : Nat) (x1 : Int) (h : Hp) : Option (Int × Hp) :=
  rf (gR h 7 0 1) 0 fun j1 =>
  if (gI h 9 j1 3) < 20 then (
    bd (f_X7_readCell n h) fun v2 h3 =>
    if v2 = 0 then (
      some (0, h3)
    ) else (
      bd (f_X9_isLand n j1 (gI h3 7 0 11) h3) fun v4 h5 =>
      if v4 = 0 then (
        bd (f_X7_isTold n 2 h5) fun v6 h7 =>
        if v6 = 0 then (
          rec 1 [j1] h7
        ) else (
          if (gI h7 9 j1 4) = (gI h7 7 0 11) then (
            rec 3 [] h7
          ) else (
            rec 1 [j1] h7
          )
        )
      ) else (
        bd (f_X7_wrong n 3 (gI h5 7 0 12) h5) fun v8 h9 =>
        ck (0 ≤ v8 ∧ v8 < 2) <|
        some (v8, h9)
      )
    )
  ) else (
    bd (f_X7_wrong n 2 x1 h) fun v10 h11 =>
    ck (0 ≤ v10 ∧ v10 < 2) <|
    some (v10, h11)
  )
noncomputable def b_X7_readLand_1 (rec : Rk) (n : Nat) (x2 : Int) (h : Hp) : Option (Int × Hp) :=
  bd (f_X7_isTold n 3 h) fun v1 h2 =>
  if v1 = 0 then (
    rec 2 [x2] h2
  ) else (
    if (gI h2 9 x2 5) = (gI h2 7 0 11) then (
      rec 3 [] h2
    ) else (
      rec 2 [x2] h2
    )
  )
noncomputable def b_X7_readLand_2 (rec : Rk) (n : Nat) (x2 : Int) (h : Hp) : Option (Int × Hp) :=
  bd (f_X9_isIsle n x2 (gI h 7 0 11) h) fun v1 h2 =>
  if v1 = 0 then (
    lt (sI h2 7 0 13 (bor (gI h2 7 0 13) 2)) fun h3 =>
    lt (sI h3 9 x2 2 (borL (gI h3 9 x2 2) (bshlL 1 (gI h3 7 0 11)))) fun h4 =>
    ck (-2147483648 ≤ (gI h4 9 x2 3) + 1 ∧ (gI h4 9 x2 3) + 1 < 2147483648) <|
    lt (sI h4 9 x2 3 ((gI h4 9 x2 3) + 1)) fun h5 =>
    some (1, h5)
  ) else (
    rec 3 [] h2
  )
noncomputable def b_X7_readLand_3 (rec : Rk) (n : Nat) (h : Hp) : Option (Int × Hp) :=
  bd (f_X7_wrong n 5 (gI h 7 0 12) h) fun v1 h2 =>
  ck (0 ≤ v1 ∧ v1 < 2) <|
  some (v1, h2)
noncomputable def g_X7_readLand (n : Nat) : Rk := Nat.rec (motive := fun _ => Rk) (fun _ _ _ => none) (fun n rec k l h => if k = 0 then b_X7_readLand_0 rec n (l.getD 0 0) h else if k = 1 then b_X7_readLand_1 rec n (l.getD 0 0) h else if k = 2 then b_X7_readLand_2 rec n (l.getD 0 0) h else if k = 3 then b_X7_readLand_3 rec n  h else none) n
noncomputable def f_X7_readLand (n : Nat) (x1 : Int) (h : Hp) : Option (Int × Hp) := g_X7_readLand n 0 [x1] h
set_option maxHeartbeats 4000000 in
set_option maxRecDepth 100000 in
theorem t_X7_readLand_0 (E : xE) (d : Nat) (rec : Rk) (n : Nat) (r : Int × Hp) (hr_73 : ∀ (x2 : Int) (h : Hp), Lay h → rec 1 [x2] h = some r → X E mX7_readLand (d + 4) (0, 0) (0, 0) 73 [some (xr 7 0), none, some (xr 9 x2)] [] h (PoI r)) (hr_103 : ∀ (h : Hp), Lay h → rec 3 [] h = some r → X E mX7_readLand (d + 4) (0, 0) (0, 0) 103 [some (xr 7 0), none, none] [] h (PoI r)) (x1 : Int) (h : Hp) (hL : Lay h) (hF : b_X7_readLand_0 rec n x1 h = some r) : X E mX7_readLand (d + 4) (0, 0) (0, 0) 0 [some (xr 7 0), some (xi x1), none] [] h (PoI r) := by
  unfold b_X7_readLand_0 at hF
  refine x_aload_n (i := 0) (b := 1) dX7_readLand_0 rfl rfl rfl ?_
  obtain ⟨j1, e_j1, hF⟩ := rf_e hF
  refine x_getR (v := some (0, j1)) (b := 4) fk_X7_76 dX7_readLand_1 rfl e_j1 rfl ?_
  refine x_getL (j := j1) (t := (9, 0, true)) (b := 7) fk_X7_158 dX7_readLand_4 rfl hL rfl rfl rfl ?_
  refine x_astore_n (i := 2) (b := 8) (ls2 := [some (xr 7 0), some (xi x1), some (xr 9 j1)]) dX7_readLand_7 rfl (Nat.le_of_ble_eq_true rfl) rfl rfl ?_
  refine x_aload_n (i := 2) (b := 9) dX7_readLand_8 rfl rfl rfl ?_
  refine x_getI (v := gI h 9 j1 3) (b := 12) fk_X7_182 dX7_readLand_9 (by decide) rfl rfl ?_
  refine x_bipush (n := 20) (b := 14) dX7_readLand_12 (by decide) rfl ?_
  refine x_icmp_lt (tgt := 24) (b := 17) dX7_readLand_14 (by decide) rfl (fun hc => ?_) (fun hc => ?_)
  · replace hF := br_T hc hF
    refine x_aload_n (i := 0) (b := 25) dX7_readLand_24 rfl rfl rfl ?_
    obtain ⟨v2, h3, hq, hF⟩ := bd_e hF
    refine x_callV (as := []) (rest := []) (b := 28) (c_X7_readCell d n h _ hL hq) dX7_readLand_25 cw_X7_173 ⟨_, _, rfl, Nat.le_of_ble_eq_true rfl⟩ rfl rfl (Nat.le_of_ble_eq_true rfl) ⟨Nat.le_refl _, Nat.le_refl _⟩ rfl (fun rv hh hp _ => ?_)
    obtain ⟨rfl, rfl, hL⟩ := hp
    refine x_if_ne (tgt := 33) (b := 31) dX7_readLand_28 (by decide) rfl (fun hc => ?_) (fun hc => ?_)
    · replace hF := br_F hc hF
      refine x_aload_n (i := 2) (b := 34) dX7_readLand_33 rfl rfl rfl ?_
      refine x_aload_n (i := 0) (b := 35) dX7_readLand_34 rfl rfl rfl ?_
      refine x_getI (v := gI h3 7 0 11) (b := 38) fk_X7_41 dX7_readLand_35 (by decide) rfl rfl ?_
      obtain ⟨v4, h5, hq, hF⟩ := bd_e hF
      refine x_callV (as := [xi (gI h3 7 0 11)]) (rest := []) (b := 41) (c_X9_isLand (d + 1) n j1 (gI h3 7 0 11) h3 _ hL hq) dX7_readLand_38 cw_X7_176 ⟨_, _, rfl, Nat.le_of_ble_eq_true rfl⟩ rfl rfl (Nat.le_of_ble_eq_true rfl) ⟨Nat.le_refl _, Nat.le_refl _⟩ rfl (fun rv hh hp _ => ?_)
      obtain ⟨rfl, rfl, hL⟩ := hp
      refine x_if_eq (tgt := 54) (b := 44) dX7_readLand_41 (by decide) rfl (fun hc => ?_) (fun hc => ?_)
      · replace hF := br_T hc hF
        refine x_aload_n (i := 0) (b := 55) dX7_readLand_54 rfl rfl rfl ?_
        refine x_iconst (n := 2) (b := 56) dX7_readLand_55 (by decide) rfl ?_
        obtain ⟨v6, h7, hq, hF⟩ := bd_e hF
        refine x_callV (as := [xi 2]) (rest := []) (b := 59) (c_X7_isTold (d + 2) n 2 h5 _ hL hq) dX7_readLand_56 cw_X7_155 ⟨_, _, rfl, Nat.le_of_ble_eq_true rfl⟩ rfl rfl (Nat.le_of_ble_eq_true rfl) ⟨Nat.le_refl _, Nat.le_refl _⟩ rfl (fun rv hh hp _ => ?_)
        obtain ⟨rfl, rfl, hL⟩ := hp
        refine x_if_eq (tgt := 73) (b := 62) dX7_readLand_59 (by decide) rfl (fun hc => ?_) (fun hc => ?_)
        · replace hF := br_T hc hF
          exact x_dp (ls2 := [some (xr 7 0), none, some (xr 9 j1)]) ⟨rfl, rfl, trivial⟩ (hr_73 j1 h7 hL hF)
        · replace hF := br_F hc hF
          refine x_aload_n (i := 2) (b := 63) dX7_readLand_62 rfl rfl rfl ?_
          refine x_getI (v := gI h7 9 j1 4) (b := 66) fk_X7_185 dX7_readLand_63 (by decide) rfl rfl ?_
          refine x_aload_n (i := 0) (b := 67) dX7_readLand_66 rfl rfl rfl ?_
          refine x_getI (v := gI h7 7 0 11) (b := 70) fk_X7_41 dX7_readLand_67 (by decide) rfl rfl ?_
          refine x_icmp_eq (tgt := 103) (b := 73) dX7_readLand_70 (by decide) rfl (fun hc => ?_) (fun hc => ?_)
          · replace hF := br_T hc hF
            exact x_dp (ls2 := [some (xr 7 0), none, none]) ⟨rfl, trivial⟩ (hr_103  h7 hL hF)
          · replace hF := br_F hc hF
            exact x_dp (ls2 := [some (xr 7 0), none, some (xr 9 j1)]) ⟨rfl, rfl, trivial⟩ (hr_73 j1 h7 hL hF)
      · replace hF := br_F hc hF
        refine x_aload_n (i := 0) (b := 45) dX7_readLand_44 rfl rfl rfl ?_
        refine x_iconst (n := 3) (b := 46) dX7_readLand_45 (by decide) rfl ?_
        refine x_aload_n (i := 0) (b := 47) dX7_readLand_46 rfl rfl rfl ?_
        refine x_getI (v := gI h5 7 0 12) (b := 50) fk_X7_44 dX7_readLand_47 (by decide) rfl rfl ?_
        obtain ⟨v8, h9, hq, hF⟩ := bd_e hF
        refine x_callV (as := [xi 3, xi (gI h5 7 0 12)]) (rest := []) (b := 53) (c_X7_wrong (d + 2) n 3 (gI h5 7 0 12) h5 _ hL hq) dX7_readLand_50 cw_X7_149 ⟨_, _, rfl, Nat.le_of_ble_eq_true rfl⟩ rfl rfl (Nat.le_of_ble_eq_true rfl) ⟨Nat.le_refl _, Nat.le_refl _⟩ rfl (fun rv hh hp _ => ?_)
        obtain ⟨rfl, rfl, hL⟩ := hp
        obtain ⟨hs, hF⟩ := ck_e hF
        refine x_zreturn dX7_readLand_53 rfl ⟨Nat.le_refl _, Nat.le_refl _⟩ hs ?_
        cases hF
        exact ⟨rfl, rfl, hL⟩
    · replace hF := br_T hc hF
      refine x_iconst (n := 0) (b := 32) dX7_readLand_31 (by decide) rfl ?_
      refine x_zreturn dX7_readLand_32 rfl ⟨Nat.le_refl _, Nat.le_refl _⟩ (by decide) ?_
      cases hF
      exact ⟨rfl, rfl, hL⟩
  · replace hF := br_F hc hF
    refine x_aload_n (i := 0) (b := 18) dX7_readLand_17 rfl rfl rfl ?_
    refine x_iconst (n := 2) (b := 19) dX7_readLand_18 (by decide) rfl ?_
    refine x_iload_n (i := 1) (b := 20) dX7_readLand_19 rfl rfl rfl ?_
    obtain ⟨v10, h11, hq, hF⟩ := bd_e hF
    refine x_callV (as := [xi 2, xi x1]) (rest := []) (b := 23) (c_X7_wrong (d + 2) n 2 x1 h _ hL hq) dX7_readLand_20 cw_X7_149 ⟨_, _, rfl, Nat.le_of_ble_eq_true rfl⟩ rfl rfl (Nat.le_of_ble_eq_true rfl) ⟨Nat.le_refl _, Nat.le_refl _⟩ rfl (fun rv hh hp _ => ?_)
    obtain ⟨rfl, rfl, hL⟩ := hp
    obtain ⟨hs, hF⟩ := ck_e hF
    refine x_zreturn dX7_readLand_23 rfl ⟨Nat.le_refl _, Nat.le_refl _⟩ hs ?_
    cases hF
    exact ⟨rfl, rfl, hL⟩
set_option maxHeartbeats 4000000 in
set_option maxRecDepth 100000 in
theorem t_X7_readLand_1 (E : xE) (d : Nat) (rec : Rk) (n : Nat) (r : Int × Hp) (hr_92 : ∀ (x2 : Int) (h : Hp), Lay h → rec 2 [x2] h = some r → X E mX7_readLand (d + 4) (0, 0) (0, 0) 92 [some (xr 7 0), none, some (xr 9 x2)] [] h (PoI r)) (hr_103 : ∀ (h : Hp), Lay h → rec 3 [] h = some r → X E mX7_readLand (d + 4) (0, 0) (0, 0) 103 [some (xr 7 0), none, none] [] h (PoI r)) (x2 : Int) (h : Hp) (hL : Lay h) (hF : b_X7_readLand_1 rec n x2 h = some r) : X E mX7_readLand (d + 4) (0, 0) (0, 0) 73 [some (xr 7 0), none, some (xr 9 x2)] [] h (PoI r) := by
  unfold b_X7_readLand_1 at hF
  refine x_aload_n (i := 0) (b := 74) dX7_readLand_73 rfl rfl rfl ?_
  refine x_iconst (n := 3) (b := 75) dX7_readLand_74 (by decide) rfl ?_
  obtain ⟨v1, h2, hq, hF⟩ := bd_e hF
  refine x_callV (as := [xi 3]) (rest := []) (b := 78) (c_X7_isTold (d + 2) n 3 h _ hL hq) dX7_readLand_75 cw_X7_155 ⟨_, _, rfl, Nat.le_of_ble_eq_true rfl⟩ rfl rfl (Nat.le_of_ble_eq_true rfl) ⟨Nat.le_refl _, Nat.le_refl _⟩ rfl (fun rv hh hp _ => ?_)
  obtain ⟨rfl, rfl, hL⟩ := hp
  refine x_if_eq (tgt := 92) (b := 81) dX7_readLand_78 (by decide) rfl (fun hc => ?_) (fun hc => ?_)
  · replace hF := br_T hc hF
    exact x_dp (ls2 := [some (xr 7 0), none, some (xr 9 x2)]) ⟨rfl, rfl, trivial⟩ (hr_92 x2 h2 hL hF)
  · replace hF := br_F hc hF
    refine x_aload_n (i := 2) (b := 82) dX7_readLand_81 rfl rfl rfl ?_
    refine x_getI (v := gI h2 9 x2 5) (b := 85) fk_X7_188 dX7_readLand_82 (by decide) rfl rfl ?_
    refine x_aload_n (i := 0) (b := 86) dX7_readLand_85 rfl rfl rfl ?_
    refine x_getI (v := gI h2 7 0 11) (b := 89) fk_X7_41 dX7_readLand_86 (by decide) rfl rfl ?_
    refine x_icmp_eq (tgt := 103) (b := 92) dX7_readLand_89 (by decide) rfl (fun hc => ?_) (fun hc => ?_)
    · replace hF := br_T hc hF
      exact x_dp (ls2 := [some (xr 7 0), none, none]) ⟨rfl, trivial⟩ (hr_103  h2 hL hF)
    · replace hF := br_F hc hF
      exact x_dp (ls2 := [some (xr 7 0), none, some (xr 9 x2)]) ⟨rfl, rfl, trivial⟩ (hr_92 x2 h2 hL hF)
set_option maxHeartbeats 4000000 in
set_option maxRecDepth 100000 in
theorem t_X7_readLand_2 (E : xE) (d : Nat) (rec : Rk) (n : Nat) (r : Int × Hp) (hr_103 : ∀ (h : Hp), Lay h → rec 3 [] h = some r → X E mX7_readLand (d + 4) (0, 0) (0, 0) 103 [some (xr 7 0), none, none] [] h (PoI r)) (x2 : Int) (h : Hp) (hL : Lay h) (hF : b_X7_readLand_2 rec n x2 h = some r) : X E mX7_readLand (d + 4) (0, 0) (0, 0) 92 [some (xr 7 0), none, some (xr 9 x2)] [] h (PoI r) := by
  unfold b_X7_readLand_2 at hF
  refine x_aload_n (i := 2) (b := 93) dX7_readLand_92 rfl rfl rfl ?_
  refine x_aload_n (i := 0) (b := 94) dX7_readLand_93 rfl rfl rfl ?_
  refine x_getI (v := gI h 7 0 11) (b := 97) fk_X7_41 dX7_readLand_94 (by decide) rfl rfl ?_
  obtain ⟨v1, h2, hq, hF⟩ := bd_e hF
  refine x_callV (as := [xi (gI h 7 0 11)]) (rest := []) (b := 100) (c_X9_isIsle (d + 2) n x2 (gI h 7 0 11) h _ hL hq) dX7_readLand_97 cw_X7_191 ⟨_, _, rfl, Nat.le_of_ble_eq_true rfl⟩ rfl rfl (Nat.le_of_ble_eq_true rfl) ⟨Nat.le_refl _, Nat.le_refl _⟩ rfl (fun rv hh hp _ => ?_)
  obtain ⟨rfl, rfl, hL⟩ := hp
  refine x_if_eq (tgt := 113) (b := 103) dX7_readLand_100 (by decide) rfl (fun hc => ?_) (fun hc => ?_)
  · replace hF := br_T hc hF
    refine x_aload_n (i := 0) (b := 114) dX7_readLand_113 rfl rfl rfl ?_
    refine x_dup (b := 115) dX7_readLand_114 rfl rfl ?_
    refine x_getI (v := gI h2 7 0 13) (b := 118) fk_X7_47 dX7_readLand_115 (by decide) rfl rfl ?_
    refine x_iconst (n := 2) (b := 119) dX7_readLand_118 (by decide) rfl ?_
    refine x_ior (b := 120) dX7_readLand_119 rfl ?_
    refine x_putI (b := 123) fk_X7_47 dX7_readLand_120 rfl rfl 13 rfl ?_
    obtain ⟨h3, e_h3, hF⟩ := lt_e hF
    refine x_hp (h2 := h3) e_h3 ?_
    replace hL : Lay h3 := by rw [← e_h3]; exact hL
    refine x_aload_n (i := 2) (b := 124) dX7_readLand_123 rfl rfl rfl ?_
    refine x_dup (b := 125) dX7_readLand_124 rfl rfl ?_
    refine x_getJ (v := gI h3 9 x2 2) (b := 128) fk_X7_194 dX7_readLand_125 rfl rfl rfl ?_
    refine x_lconst (z := 1) (b := 129) dX7_readLand_128 rfl (by decide) rfl ?_
    refine x_aload_n (i := 0) (b := 130) dX7_readLand_129 rfl rfl rfl ?_
    refine x_getI (v := gI h3 7 0 11) (b := 133) fk_X7_41 dX7_readLand_130 (by decide) rfl rfl ?_
    refine x_lshl (b := 134) dX7_readLand_133 rfl ?_
    refine x_lor (b := 135) dX7_readLand_134 rfl ?_
    refine x_putJ (b := 138) fk_X7_194 dX7_readLand_135 rfl rfl 2 rfl ?_
    obtain ⟨h4, e_h4, hF⟩ := lt_e hF
    refine x_hp (h2 := h4) e_h4 ?_
    replace hL : Lay h4 := by rw [← e_h4]; exact hL
    refine x_aload_n (i := 2) (b := 139) dX7_readLand_138 rfl rfl rfl ?_
    refine x_dup (b := 140) dX7_readLand_139 rfl rfl ?_
    refine x_getI (v := gI h4 9 x2 3) (b := 143) fk_X7_182 dX7_readLand_140 (by decide) rfl rfl ?_
    refine x_iconst (n := 1) (b := 144) dX7_readLand_143 (by decide) rfl ?_
    obtain ⟨hs, hF⟩ := ck_e hF
    refine x_iadd (b := 145) dX7_readLand_144 hs rfl ?_
    refine x_putI (b := 148) fk_X7_182 dX7_readLand_145 rfl rfl 3 rfl ?_
    obtain ⟨h5, e_h5, hF⟩ := lt_e hF
    refine x_hp (h2 := h5) e_h5 ?_
    replace hL : Lay h5 := by rw [← e_h5]; exact hL
    refine x_iconst (n := 1) (b := 149) dX7_readLand_148 (by decide) rfl ?_
    refine x_zreturn dX7_readLand_149 rfl ⟨Nat.le_refl _, Nat.le_refl _⟩ (by decide) ?_
    cases hF
    exact ⟨rfl, rfl, hL⟩
  · replace hF := br_F hc hF
    exact x_dp (ls2 := [some (xr 7 0), none, none]) ⟨rfl, trivial⟩ (hr_103  h2 hL hF)
set_option maxHeartbeats 4000000 in
set_option maxRecDepth 100000 in
theorem t_X7_readLand_3 (E : xE) (d : Nat) (rec : Rk) (n : Nat) (r : Int × Hp) (h : Hp) (hL : Lay h) (hF : b_X7_readLand_3 rec n  h = some r) : X E mX7_readLand (d + 4) (0, 0) (0, 0) 103 [some (xr 7 0), none, none] [] h (PoI r) := by
  unfold b_X7_readLand_3 at hF
  refine x_aload_n (i := 0) (b := 104) dX7_readLand_103 rfl rfl rfl ?_
  refine x_iconst (n := 5) (b := 105) dX7_readLand_104 (by decide) rfl ?_
  refine x_aload_n (i := 0) (b := 106) dX7_readLand_105 rfl rfl rfl ?_
  refine x_getI (v := gI h 7 0 12) (b := 109) fk_X7_44 dX7_readLand_106 (by decide) rfl rfl ?_
  obtain ⟨v1, h2, hq, hF⟩ := bd_e hF
  refine x_callV (as := [xi 5, xi (gI h 7 0 12)]) (rest := []) (b := 112) (c_X7_wrong (d + 2) n 5 (gI h 7 0 12) h _ hL hq) dX7_readLand_109 cw_X7_149 ⟨_, _, rfl, Nat.le_of_ble_eq_true rfl⟩ rfl rfl (Nat.le_of_ble_eq_true rfl) ⟨Nat.le_refl _, Nat.le_refl _⟩ rfl (fun rv hh hp _ => ?_)
  obtain ⟨rfl, rfl, hL⟩ := hp
  obtain ⟨hs, hF⟩ := ck_e hF
  refine x_zreturn dX7_readLand_112 rfl ⟨Nat.le_refl _, Nat.le_refl _⟩ hs ?_
  cases hF
  exact ⟨rfl, rfl, hL⟩
set_option maxHeartbeats 4000000 in
set_option maxRecDepth 100000 in
theorem u_X7_readLand (E : xE) (d : Nat) (r : Int × Hp) : ∀ n : Nat, (∀ (x1 : Int) (h : Hp), Lay h → g_X7_readLand n 0 [x1] h = some r → X E mX7_readLand (d + 4) (0, 0) (0, 0) 0 [some (xr 7 0), some (xi x1), none] [] h (PoI r)) ∧ (∀ (x2 : Int) (h : Hp), Lay h → g_X7_readLand n 1 [x2] h = some r → X E mX7_readLand (d + 4) (0, 0) (0, 0) 73 [some (xr 7 0), none, some (xr 9 x2)] [] h (PoI r)) ∧ (∀ (x2 : Int) (h : Hp), Lay h → g_X7_readLand n 2 [x2] h = some r → X E mX7_readLand (d + 4) (0, 0) (0, 0) 92 [some (xr 7 0), none, some (xr 9 x2)] [] h (PoI r)) ∧ (∀ (h : Hp), Lay h → g_X7_readLand n 3 [] h = some r → X E mX7_readLand (d + 4) (0, 0) (0, 0) 103 [some (xr 7 0), none, none] [] h (PoI r)) := by
  intro n
  induction n with
  | zero => exact ⟨fun _ _ _ hF => no_e (r := r) hF, fun _ _ _ hF => no_e (r := r) hF, fun _ _ _ hF => no_e (r := r) hF, fun _ _ hF => no_e (r := r) hF⟩
  | succ n ih => exact ⟨fun x1 h hL hF => t_X7_readLand_0 E d (g_X7_readLand n) n r ih.2.1 ih.2.2.2 x1 h hL hF, fun x2 h hL hF => t_X7_readLand_1 E d (g_X7_readLand n) n r ih.2.2.1 ih.2.2.2 x2 h hL hF, fun x2 h hL hF => t_X7_readLand_2 E d (g_X7_readLand n) n r ih.2.2.2 x2 h hL hF, fun h hL hF => t_X7_readLand_3 E d (g_X7_readLand n) n r   h hL hF⟩
theorem c_X7_readLand (d n : Nat) (x1 : Int) (h : Hp) (r : Int × Hp) (hL : Lay h) (hF : f_X7_readLand n x1 h = some r) : Sp mX7_readLand (d + 4) (0, 0) [xr 7 0, xi x1] h (PoI r) :=
  sp_of (by decide) rfl (Nat.le_of_ble_eq_true rfl) (ls := [some (xr 7 0), some (xi x1), none]) rfl (fun E _ => (u_X7_readLand E d r n).1 x1 h hL hF)
theorem dX7_readLoses_0 : decode cX7_readLoses 0 = .ok (.aload_n 0, 1) := by decide +kernel
theorem dX7_readLoses_1 : decode cX7_readLoses 1 = .ok (.iconst 1, 1) := by decide +kernel
theorem dX7_readLoses_2 : decode cX7_readLoses 2 = .ok (.bipush 99, 2) := by decide +kernel
theorem dX7_readLoses_4 : decode cX7_readLoses 4 = .ok (.invokevirtual 167, 3) := by decide +kernel
theorem dX7_readLoses_7 : decode cX7_readLoses 7 = .ok (.ifCond .ne 5, 3) := by decide +kernel
theorem dX7_readLoses_10 : decode cX7_readLoses 10 = .ok (.iconst 0, 1) := by decide +kernel
theorem dX7_readLoses_11 : decode cX7_readLoses 11 = .ok (.ireturn, 1) := by decide +kernel
theorem dX7_readLoses_12 : decode cX7_readLoses 12 = .ok (.aload_n 1, 1) := by decide +kernel
theorem dX7_readLoses_13 : decode cX7_readLoses 13 = .ok (.aload_n 0, 1) := by decide +kernel
theorem dX7_readLoses_14 : decode cX7_readLoses 14 = .ok (.getfield 41, 3) := by decide +kernel
theorem dX7_readLoses_17 : decode cX7_readLoses 17 = .ok (.putfield 310, 3) := by decide +kernel
theorem dX7_readLoses_20 : decode cX7_readLoses 20 = .ok (.iconst 1, 1) := by decide +kernel
theorem dX7_readLoses_21 : decode cX7_readLoses 21 = .ok (.ireturn, 1) := by decide +kernel
noncomputable def b_X7_readLoses_0 (rec : Rk) (n : Nat) (x1 : Int) (h : Hp) : Option (Int × Hp) :=
  bd (f_X7_readNumber n 1 99 h) fun v1 h2 =>
  if v1 = 0 then (
    some (0, h2)
  ) else (
    lt (sI h2 4 x1 7 (gI h2 7 0 11)) fun h3 =>
    some (1, h3)
  )
noncomputable def g_X7_readLoses (n : Nat) : Rk := Nat.rec (motive := fun _ => Rk) (fun _ _ _ => none) (fun n rec k l h => if k = 0 then b_X7_readLoses_0 rec n (l.getD 0 0) h else none) n
noncomputable def f_X7_readLoses (n : Nat) (x1 : Int) (h : Hp) : Option (Int × Hp) := g_X7_readLoses n 0 [x1] h
set_option maxHeartbeats 4000000 in
set_option maxRecDepth 100000 in
theorem t_X7_readLoses_0 (E : xE) (d : Nat) (rec : Rk) (n : Nat) (r : Int × Hp) (x1 : Int) (h : Hp) (hL : Lay h) (hF : b_X7_readLoses_0 rec n x1 h = some r) : X E mX7_readLoses (d + 3) (0, 0) (0, 0) 0 [some (xr 7 0), some (xr 4 x1)] [] h (PoI r) := by
  unfold b_X7_readLoses_0 at hF
  refine x_aload_n (i := 0) (b := 1) dX7_readLoses_0 rfl rfl rfl ?_
  refine x_iconst (n := 1) (b := 2) dX7_readLoses_1 (by decide) rfl ?_
  refine x_bipush (n := 99) (b := 4) dX7_readLoses_2 (by decide) rfl ?_
  obtain ⟨v1, h2, hq, hF⟩ := bd_e hF
  refine x_callV (as := [xi 1, xi 99]) (rest := []) (b := 7) (c_X7_readNumber d n 1 99 h _ hL hq) dX7_readLoses_4 cw_X7_167 ⟨_, _, rfl, Nat.le_of_ble_eq_true rfl⟩ rfl rfl (Nat.le_of_ble_eq_true rfl) ⟨Nat.le_refl _, Nat.le_refl _⟩ rfl (fun rv hh hp _ => ?_)
  obtain ⟨rfl, rfl, hL⟩ := hp
  refine x_if_ne (tgt := 12) (b := 10) dX7_readLoses_7 (by decide) rfl (fun hc => ?_) (fun hc => ?_)
  · replace hF := br_F hc hF
    refine x_aload_n (i := 1) (b := 13) dX7_readLoses_12 rfl rfl rfl ?_
    refine x_aload_n (i := 0) (b := 14) dX7_readLoses_13 rfl rfl rfl ?_
    refine x_getI (v := gI h2 7 0 11) (b := 17) fk_X7_41 dX7_readLoses_14 (by decide) rfl rfl ?_
    refine x_putI (b := 20) fk_X7_310 dX7_readLoses_17 rfl rfl 7 rfl ?_
    obtain ⟨h3, e_h3, hF⟩ := lt_e hF
    refine x_hp (h2 := h3) e_h3 ?_
    replace hL : Lay h3 := by rw [← e_h3]; exact hL
    refine x_iconst (n := 1) (b := 21) dX7_readLoses_20 (by decide) rfl ?_
    refine x_zreturn dX7_readLoses_21 rfl ⟨Nat.le_refl _, Nat.le_refl _⟩ (by decide) ?_
    cases hF
    exact ⟨rfl, rfl, hL⟩
  · replace hF := br_T hc hF
    refine x_iconst (n := 0) (b := 11) dX7_readLoses_10 (by decide) rfl ?_
    refine x_zreturn dX7_readLoses_11 rfl ⟨Nat.le_refl _, Nat.le_refl _⟩ (by decide) ?_
    cases hF
    exact ⟨rfl, rfl, hL⟩
set_option maxHeartbeats 4000000 in
set_option maxRecDepth 100000 in
theorem u_X7_readLoses (E : xE) (d : Nat) (r : Int × Hp) : ∀ n : Nat, (∀ (x1 : Int) (h : Hp), Lay h → g_X7_readLoses n 0 [x1] h = some r → X E mX7_readLoses (d + 3) (0, 0) (0, 0) 0 [some (xr 7 0), some (xr 4 x1)] [] h (PoI r)) := by
  intro n
  induction n with
  | zero => exact fun _ _ _ hF => no_e (r := r) hF
  | succ n ih => exact fun x1 h hL hF => t_X7_readLoses_0 E d (g_X7_readLoses n) n r  x1 h hL hF
theorem c_X7_readLoses (d n : Nat) (x1 : Int) (h : Hp) (r : Int × Hp) (hL : Lay h) (hF : f_X7_readLoses n x1 h = some r) : Sp mX7_readLoses (d + 3) (0, 0) [xr 7 0, xr 4 x1] h (PoI r) :=
  sp_of (by decide) rfl (Nat.le_of_ble_eq_true rfl) (ls := [some (xr 7 0), some (xr 4 x1)]) rfl (fun E _ => (u_X7_readLoses E d r n) x1 h hL hF)
theorem dX7_readRest_0 : decode cX7_readRest 0 = .ok (.iconst 0, 1) := by decide +kernel
theorem dX7_readRest_1 : decode cX7_readRest 1 = .ok (.istore_n 2, 1) := by decide +kernel
theorem dX7_readRest_2 : decode cX7_readRest 2 = .ok (.iconst 0, 1) := by decide +kernel
theorem dX7_readRest_3 : decode cX7_readRest 3 = .ok (.istore_n 3, 1) := by decide +kernel
theorem dX7_readRest_4 : decode cX7_readRest 4 = .ok (.iload_n 3, 1) := by decide +kernel
theorem dX7_readRest_5 : decode cX7_readRest 5 = .ok (.iconst 5, 1) := by decide +kernel
theorem dX7_readRest_6 : decode cX7_readRest 6 = .ok (.if_icmp .ge 114, 3) := by decide +kernel
theorem dX7_readRest_9 : decode cX7_readRest 9 = .ok (.aload_n 0, 1) := by decide +kernel
theorem dX7_readRest_10 : decode cX7_readRest 10 = .ok (.getfield 35, 3) := by decide +kernel
theorem dX7_readRest_13 : decode cX7_readRest 13 = .ok (.bipush 13, 2) := by decide +kernel
theorem dX7_readRest_15 : decode cX7_readRest 15 = .ok (.if_icmp .lt 105, 3) := by decide +kernel
theorem dX7_readRest_18 : decode cX7_readRest 18 = .ok (.aload_n 0, 1) := by decide +kernel
theorem dX7_readRest_19 : decode cX7_readRest 19 = .ok (.getfield 35, 3) := by decide +kernel
theorem dX7_readRest_22 : decode cX7_readRest 22 = .ok (.bipush 16, 2) := by decide +kernel
theorem dX7_readRest_24 : decode cX7_readRest 24 = .ok (.if_icmp .gt 96, 3) := by decide +kernel
theorem dX7_readRest_27 : decode cX7_readRest 27 = .ok (.iload_n 2, 1) := by decide +kernel
theorem dX7_readRest_28 : decode cX7_readRest 28 = .ok (.aload_n 0, 1) := by decide +kernel
theorem dX7_readRest_29 : decode cX7_readRest 29 = .ok (.getfield 35, 3) := by decide +kernel
theorem dX7_readRest_32 : decode cX7_readRest 32 = .ok (.ishr, 1) := by decide +kernel
theorem dX7_readRest_33 : decode cX7_readRest 33 = .ok (.iconst 1, 1) := by decide +kernel
theorem dX7_readRest_34 : decode cX7_readRest 34 = .ok (.iand, 1) := by decide +kernel
theorem dX7_readRest_35 : decode cX7_readRest 35 = .ok (.iconst 1, 1) := by decide +kernel
theorem dX7_readRest_36 : decode cX7_readRest 36 = .ok (.if_icmp .ne 13, 3) := by decide +kernel
theorem dX7_readRest_39 : decode cX7_readRest 39 = .ok (.aload_n 0, 1) := by decide +kernel
theorem dX7_readRest_40 : decode cX7_readRest 40 = .ok (.iconst 3, 1) := by decide +kernel
theorem dX7_readRest_41 : decode cX7_readRest 41 = .ok (.aload_n 0, 1) := by decide +kernel
theorem dX7_readRest_42 : decode cX7_readRest 42 = .ok (.getfield 29, 3) := by decide +kernel
theorem dX7_readRest_45 : decode cX7_readRest 45 = .ok (.invokevirtual 149, 3) := by decide +kernel
theorem dX7_readRest_48 : decode cX7_readRest 48 = .ok (.ireturn, 1) := by decide +kernel
theorem dX7_readRest_49 : decode cX7_readRest 49 = .ok (.iload_n 2, 1) := by decide +kernel
theorem dX7_readRest_50 : decode cX7_readRest 50 = .ok (.iconst 1, 1) := by decide +kernel
theorem dX7_readRest_51 : decode cX7_readRest 51 = .ok (.aload_n 0, 1) := by decide +kernel
theorem dX7_readRest_52 : decode cX7_readRest 52 = .ok (.getfield 35, 3) := by decide +kernel
theorem dX7_readRest_55 : decode cX7_readRest 55 = .ok (.ishl, 1) := by decide +kernel
theorem dX7_readRest_56 : decode cX7_readRest 56 = .ok (.ior, 1) := by decide +kernel
theorem dX7_readRest_57 : decode cX7_readRest 57 = .ok (.istore_n 2, 1) := by decide +kernel
theorem dX7_readRest_58 : decode cX7_readRest 58 = .ok (.aload_n 0, 1) := by decide +kernel
theorem dX7_readRest_59 : decode cX7_readRest 59 = .ok (.getfield 35, 3) := by decide +kernel
theorem dX7_readRest_62 : decode cX7_readRest 62 = .ok (.istore 4, 2) := by decide +kernel
theorem dX7_readRest_64 : decode cX7_readRest 64 = .ok (.aload_n 0, 1) := by decide +kernel
theorem dX7_readRest_65 : decode cX7_readRest 65 = .ok (.invokevirtual 89, 3) := by decide +kernel
theorem dX7_readRest_68 : decode cX7_readRest 68 = .ok (.iload 4, 2) := by decide +kernel
theorem dX7_readRest_70 : decode cX7_readRest 70 = .ok (.bipush 15, 2) := by decide +kernel
theorem dX7_readRest_72 : decode cX7_readRest 72 = .ok (.if_icmp .ne 11, 3) := by decide +kernel
theorem dX7_readRest_75 : decode cX7_readRest 75 = .ok (.aload_n 0, 1) := by decide +kernel
theorem dX7_readRest_76 : decode cX7_readRest 76 = .ok (.aload_n 1, 1) := by decide +kernel
theorem dX7_readRest_77 : decode cX7_readRest 77 = .ok (.invokevirtual 288, 3) := by decide +kernel
theorem dX7_readRest_80 : decode cX7_readRest 80 = .ok (.goto 25, 3) := by decide +kernel
theorem dX7_readRest_83 : decode cX7_readRest 83 = .ok (.iload 4, 2) := by decide +kernel
theorem dX7_readRest_85 : decode cX7_readRest 85 = .ok (.bipush 16, 2) := by decide +kernel
theorem dX7_readRest_87 : decode cX7_readRest 87 = .ok (.if_icmp .ne 11, 3) := by decide +kernel
theorem dX7_readRest_90 : decode cX7_readRest 90 = .ok (.aload_n 0, 1) := by decide +kernel
theorem dX7_readRest_91 : decode cX7_readRest 91 = .ok (.aload_n 1, 1) := by decide +kernel
theorem dX7_readRest_92 : decode cX7_readRest 92 = .ok (.invokevirtual 291, 3) := by decide +kernel
theorem dX7_readRest_95 : decode cX7_readRest 95 = .ok (.goto 10, 3) := by decide +kernel
theorem dX7_readRest_98 : decode cX7_readRest 98 = .ok (.aload_n 0, 1) := by decide +kernel
theorem dX7_readRest_99 : decode cX7_readRest 99 = .ok (.aload_n 1, 1) := by decide +kernel
theorem dX7_readRest_100 : decode cX7_readRest 100 = .ok (.iload 4, 2) := by decide +kernel
theorem dX7_readRest_102 : decode cX7_readRest 102 = .ok (.invokevirtual 294, 3) := by decide +kernel
theorem dX7_readRest_105 : decode cX7_readRest 105 = .ok (.istore 5, 2) := by decide +kernel
theorem dX7_readRest_107 : decode cX7_readRest 107 = .ok (.iload 5, 2) := by decide +kernel
theorem dX7_readRest_109 : decode cX7_readRest 109 = .ok (.ifCond .ne 5, 3) := by decide +kernel
theorem dX7_readRest_112 : decode cX7_readRest 112 = .ok (.iconst 0, 1) := by decide +kernel
theorem dX7_readRest_113 : decode cX7_readRest 113 = .ok (.ireturn, 1) := by decide +kernel
theorem dX7_readRest_114 : decode cX7_readRest 114 = .ok (.iinc 3 1, 3) := by decide +kernel
theorem dX7_readRest_117 : decode cX7_readRest 117 = .ok (.goto (-113), 3) := by decide +kernel
theorem dX7_readRest_120 : decode cX7_readRest 120 = .ok (.iconst 1, 1) := by decide +kernel
theorem dX7_readRest_121 : decode cX7_readRest 121 = .ok (.ireturn, 1) := by decide +kernel
noncomputable def b_X7_readRest_0 (rec : Rk) (n : Nat) (x1 : Int) (h : Hp) : Option (Int × Hp) :=
  rec 1 [x1, 0, 0] h
noncomputable def b_X7_readRest_1 (rec : Rk) (n : Nat) (x1 x2 x3 : Int) (h : Hp) : Option (Int × Hp) :=
  if 5 ≤ x3 then (
    some (1, h)
  ) else (
    if (gI h 7 0 9) < 13 then (
      some (1, h)
    ) else (
      if 16 < (gI h 7 0 9) then (
        some (1, h)
      ) else (
        if (band (bshr x2 (gI h 7 0 9)) 1) = 1 then (
          bd (f_X7_wrong n 3 (gI h 7 0 7) h) fun v1 h2 =>
          ck (0 ≤ v1 ∧ v1 < 2) <|
          some (v1, h2)
        ) else (
          lt (bor x2 (bshl 1 (gI h 7 0 9))) fun z3 =>
          lt (gI h 7 0 9) fun z4 =>
          bd (f_X7_advance n h) fun v5 h6 =>
          if z4 = 15 then (
            bd (f_X7_readSick n x1 h6) fun v7 h8 =>
            rec 2 [x1, z3, x3, v7] h8
          ) else (
            if z4 = 16 then (
              bd (f_X7_readLoses n x1 h6) fun v9 h10 =>
              rec 2 [x1, z3, x3, v9] h10
            ) else (
              bd (f_X7_readStay n x1 z4 h6) fun v11 h12 =>
              rec 2 [x1, z3, x3, v11] h12
            )
          )
        )
      )
    )
  )
noncomputable def b_X7_readRest_2 (rec : Rk) (n : Nat) (x1 x2 x3 y0 : Int) (h : Hp) : Option (Int × Hp) :=
  if y0 = 0 then (
    some (0, h)
  ) else (
    ck (-2147483648 ≤ x3 + 1 ∧ x3 + 1 < 2147483648) <|
    rec 1 [x1, x2, x3 + 1] h
  )
noncomputable def g_X7_readRest (n : Nat) : Rk := Nat.rec (motive := fun _ => Rk) (fun _ _ _ => none) (fun n rec k l h => if k = 0 then b_X7_readRest_0 rec n (l.getD 0 0) h else if k = 1 then b_X7_readRest_1 rec n (l.getD 0 0) (l.getD 1 0) (l.getD 2 0) h else if k = 2 then b_X7_readRest_2 rec n (l.getD 0 0) (l.getD 1 0) (l.getD 2 0) (l.getD 3 0) h else none) n
noncomputable def f_X7_readRest (n : Nat) (x1 : Int) (h : Hp) : Option (Int × Hp) := g_X7_readRest n 0 [x1] h
set_option maxHeartbeats 4000000 in
set_option maxRecDepth 100000 in
theorem t_X7_readRest_0 (E : xE) (d : Nat) (rec : Rk) (n : Nat) (r : Int × Hp) (hr_4 : ∀ (x1 x2 x3 : Int) (h : Hp), Lay h → rec 1 [x1, x2, x3] h = some r → X E mX7_readRest (d + 4) (0, 0) (0, 0) 4 [some (xr 7 0), some (xr 4 x1), some (xi x2), some (xi x3), none, none] [] h (PoI r)) (x1 : Int) (h : Hp) (hL : Lay h) (hF : b_X7_readRest_0 rec n x1 h = some r) : X E mX7_readRest (d + 4) (0, 0) (0, 0) 0 [some (xr 7 0), some (xr 4 x1), none, none, none, none] [] h (PoI r) := by
  unfold b_X7_readRest_0 at hF
  refine x_iconst (n := 0) (b := 1) dX7_readRest_0 (by decide) rfl ?_
  refine x_istore_n (i := 2) (b := 2) (ls2 := [some (xr 7 0), some (xr 4 x1), some (xi 0), none, none, none]) dX7_readRest_1 rfl (Nat.le_of_ble_eq_true rfl) rfl rfl ?_
  refine x_iconst (n := 0) (b := 3) dX7_readRest_2 (by decide) rfl ?_
  refine x_istore_n (i := 3) (b := 4) (ls2 := [some (xr 7 0), some (xr 4 x1), some (xi 0), some (xi 0), none, none]) dX7_readRest_3 rfl (Nat.le_of_ble_eq_true rfl) rfl rfl ?_
  exact x_dp (ls2 := [some (xr 7 0), some (xr 4 x1), some (xi 0), some (xi 0), none, none]) ⟨rfl, rfl, rfl, rfl, trivial⟩ (hr_4 x1 0 0 h hL hF)
set_option maxHeartbeats 4000000 in
set_option maxRecDepth 100000 in
theorem t_X7_readRest_1 (E : xE) (d : Nat) (rec : Rk) (n : Nat) (r : Int × Hp) (hr_105 : ∀ (x1 x2 x3 y0 : Int) (h : Hp), Lay h → rec 2 [x1, x2, x3, y0] h = some r → X E mX7_readRest (d + 4) (0, 0) (0, 0) 105 [some (xr 7 0), some (xr 4 x1), some (xi x2), some (xi x3), none, none] [xi y0] h (PoI r)) (x1 x2 x3 : Int) (h : Hp) (hL : Lay h) (hF : b_X7_readRest_1 rec n x1 x2 x3 h = some r) : X E mX7_readRest (d + 4) (0, 0) (0, 0) 4 [some (xr 7 0), some (xr 4 x1), some (xi x2), some (xi x3), none, none] [] h (PoI r) := by
  unfold b_X7_readRest_1 at hF
  refine x_iload_n (i := 3) (b := 5) dX7_readRest_4 rfl rfl rfl ?_
  refine x_iconst (n := 5) (b := 6) dX7_readRest_5 (by decide) rfl ?_
  refine x_icmp_ge (tgt := 120) (b := 9) dX7_readRest_6 (by decide) rfl (fun hc => ?_) (fun hc => ?_)
  · replace hF := br_T hc hF
    refine x_iconst (n := 1) (b := 121) dX7_readRest_120 (by decide) rfl ?_
    refine x_zreturn dX7_readRest_121 rfl ⟨Nat.le_refl _, Nat.le_refl _⟩ (by decide) ?_
    cases hF
    exact ⟨rfl, rfl, hL⟩
  · replace hF := br_F hc hF
    refine x_aload_n (i := 0) (b := 10) dX7_readRest_9 rfl rfl rfl ?_
    refine x_getI (v := gI h 7 0 9) (b := 13) fk_X7_35 dX7_readRest_10 (by decide) rfl rfl ?_
    refine x_bipush (n := 13) (b := 15) dX7_readRest_13 (by decide) rfl ?_
    refine x_icmp_lt (tgt := 120) (b := 18) dX7_readRest_15 (by decide) rfl (fun hc => ?_) (fun hc => ?_)
    · replace hF := br_T hc hF
      refine x_iconst (n := 1) (b := 121) dX7_readRest_120 (by decide) rfl ?_
      refine x_zreturn dX7_readRest_121 rfl ⟨Nat.le_refl _, Nat.le_refl _⟩ (by decide) ?_
      cases hF
      exact ⟨rfl, rfl, hL⟩
    · replace hF := br_F hc hF
      refine x_aload_n (i := 0) (b := 19) dX7_readRest_18 rfl rfl rfl ?_
      refine x_getI (v := gI h 7 0 9) (b := 22) fk_X7_35 dX7_readRest_19 (by decide) rfl rfl ?_
      refine x_bipush (n := 16) (b := 24) dX7_readRest_22 (by decide) rfl ?_
      refine x_icmp_gt (tgt := 120) (b := 27) dX7_readRest_24 (by decide) rfl (fun hc => ?_) (fun hc => ?_)
      · replace hF := br_T hc hF
        refine x_iconst (n := 1) (b := 121) dX7_readRest_120 (by decide) rfl ?_
        refine x_zreturn dX7_readRest_121 rfl ⟨Nat.le_refl _, Nat.le_refl _⟩ (by decide) ?_
        cases hF
        exact ⟨rfl, rfl, hL⟩
      · replace hF := br_F hc hF
        refine x_iload_n (i := 2) (b := 28) dX7_readRest_27 rfl rfl rfl ?_
        refine x_aload_n (i := 0) (b := 29) dX7_readRest_28 rfl rfl rfl ?_
        refine x_getI (v := gI h 7 0 9) (b := 32) fk_X7_35 dX7_readRest_29 (by decide) rfl rfl ?_
        refine x_ishr (b := 33) dX7_readRest_32 rfl ?_
        refine x_iconst (n := 1) (b := 34) dX7_readRest_33 (by decide) rfl ?_
        refine x_iand (b := 35) dX7_readRest_34 rfl ?_
        refine x_iconst (n := 1) (b := 36) dX7_readRest_35 (by decide) rfl ?_
        refine x_icmp_ne (tgt := 49) (b := 39) dX7_readRest_36 (by decide) rfl (fun hc => ?_) (fun hc => ?_)
        · replace hF := br_F hc hF
          refine x_iload_n (i := 2) (b := 50) dX7_readRest_49 rfl rfl rfl ?_
          refine x_iconst (n := 1) (b := 51) dX7_readRest_50 (by decide) rfl ?_
          refine x_aload_n (i := 0) (b := 52) dX7_readRest_51 rfl rfl rfl ?_
          refine x_getI (v := gI h 7 0 9) (b := 55) fk_X7_35 dX7_readRest_52 (by decide) rfl rfl ?_
          refine x_ishl (b := 56) dX7_readRest_55 rfl ?_
          refine x_ior (b := 57) dX7_readRest_56 rfl ?_
          obtain ⟨z3, e_z3, hF⟩ := lt_e hF
          refine x_eq (y := z3) e_z3 ?_
          refine x_istore_n (i := 2) (b := 58) (ls2 := [some (xr 7 0), some (xr 4 x1), some (xi z3), some (xi x3), none, none]) dX7_readRest_57 rfl (Nat.le_of_ble_eq_true rfl) rfl rfl ?_
          refine x_aload_n (i := 0) (b := 59) dX7_readRest_58 rfl rfl rfl ?_
          refine x_getI (v := gI h 7 0 9) (b := 62) fk_X7_35 dX7_readRest_59 (by decide) rfl rfl ?_
          obtain ⟨z4, e_z4, hF⟩ := lt_e hF
          refine x_eq (y := z4) e_z4 ?_
          refine x_istore (i := 4) (b := 64) (ls2 := [some (xr 7 0), some (xr 4 x1), some (xi z3), some (xi x3), some (xi z4), none]) dX7_readRest_62 (Nat.le_of_ble_eq_true rfl) rfl rfl ?_
          refine x_aload_n (i := 0) (b := 65) dX7_readRest_64 rfl rfl rfl ?_
          obtain ⟨v5, h6, hq, hF⟩ := bd_e hF
          refine x_callV (as := []) (rest := []) (b := 68) (c_X7_advance (d + 2) n h _ hL hq) dX7_readRest_65 cw_X7_89 ⟨_, _, rfl, Nat.le_of_ble_eq_true rfl⟩ rfl rfl (Nat.le_of_ble_eq_true rfl) ⟨Nat.le_refl _, Nat.le_refl _⟩ rfl (fun rv hh hp _ => ?_)
          obtain ⟨rfl, rfl, hL⟩ := hp
          refine x_iload (i := 4) (b := 70) dX7_readRest_68 rfl rfl ?_
          refine x_bipush (n := 15) (b := 72) dX7_readRest_70 (by decide) rfl ?_
          refine x_icmp_ne (tgt := 83) (b := 75) dX7_readRest_72 (by decide) rfl (fun hc => ?_) (fun hc => ?_)
          · replace hF := br_F hc hF
            refine x_iload (i := 4) (b := 85) dX7_readRest_83 rfl rfl ?_
            refine x_bipush (n := 16) (b := 87) dX7_readRest_85 (by decide) rfl ?_
            refine x_icmp_ne (tgt := 98) (b := 90) dX7_readRest_87 (by decide) rfl (fun hc => ?_) (fun hc => ?_)
            · replace hF := br_F hc hF
              refine x_aload_n (i := 0) (b := 99) dX7_readRest_98 rfl rfl rfl ?_
              refine x_aload_n (i := 1) (b := 100) dX7_readRest_99 rfl rfl rfl ?_
              refine x_iload (i := 4) (b := 102) dX7_readRest_100 rfl rfl ?_
              obtain ⟨v11, h12, hq, hF⟩ := bd_e hF
              refine x_callV (as := [xr 4 x1, xi z4]) (rest := []) (b := 105) (c_X7_readStay d n x1 z4 h6 _ hL hq) dX7_readRest_102 cw_X7_294 ⟨_, _, rfl, Nat.le_of_ble_eq_true rfl⟩ rfl rfl (Nat.le_of_ble_eq_true rfl) ⟨Nat.le_refl _, Nat.le_refl _⟩ rfl (fun rv hh hp _ => ?_)
              obtain ⟨rfl, rfl, hL⟩ := hp
              exact x_dp (ls2 := [some (xr 7 0), some (xr 4 x1), some (xi z3), some (xi x3), none, none]) ⟨rfl, rfl, rfl, rfl, trivial⟩ (hr_105 x1 z3 x3 v11 h12 hL hF)
            · replace hF := br_T hc hF
              refine x_aload_n (i := 0) (b := 91) dX7_readRest_90 rfl rfl rfl ?_
              refine x_aload_n (i := 1) (b := 92) dX7_readRest_91 rfl rfl rfl ?_
              obtain ⟨v9, h10, hq, hF⟩ := bd_e hF
              refine x_callV (as := [xr 4 x1]) (rest := []) (b := 95) (c_X7_readLoses d n x1 h6 _ hL hq) dX7_readRest_92 cw_X7_291 ⟨_, _, rfl, Nat.le_of_ble_eq_true rfl⟩ rfl rfl (Nat.le_of_ble_eq_true rfl) ⟨Nat.le_refl _, Nat.le_refl _⟩ rfl (fun rv hh hp _ => ?_)
              obtain ⟨rfl, rfl, hL⟩ := hp
              refine x_goto (tgt := 105) dX7_readRest_95 (by decide) ?_
              exact x_dp (ls2 := [some (xr 7 0), some (xr 4 x1), some (xi z3), some (xi x3), none, none]) ⟨rfl, rfl, rfl, rfl, trivial⟩ (hr_105 x1 z3 x3 v9 h10 hL hF)
          · replace hF := br_T hc hF
            refine x_aload_n (i := 0) (b := 76) dX7_readRest_75 rfl rfl rfl ?_
            refine x_aload_n (i := 1) (b := 77) dX7_readRest_76 rfl rfl rfl ?_
            obtain ⟨v7, h8, hq, hF⟩ := bd_e hF
            refine x_callV (as := [xr 4 x1]) (rest := []) (b := 80) (c_X7_readSick d n x1 h6 _ hL hq) dX7_readRest_77 cw_X7_288 ⟨_, _, rfl, Nat.le_of_ble_eq_true rfl⟩ rfl rfl (Nat.le_of_ble_eq_true rfl) ⟨Nat.le_refl _, Nat.le_refl _⟩ rfl (fun rv hh hp _ => ?_)
            obtain ⟨rfl, rfl, hL⟩ := hp
            refine x_goto (tgt := 105) dX7_readRest_80 (by decide) ?_
            exact x_dp (ls2 := [some (xr 7 0), some (xr 4 x1), some (xi z3), some (xi x3), none, none]) ⟨rfl, rfl, rfl, rfl, trivial⟩ (hr_105 x1 z3 x3 v7 h8 hL hF)
        · replace hF := br_T hc hF
          refine x_aload_n (i := 0) (b := 40) dX7_readRest_39 rfl rfl rfl ?_
          refine x_iconst (n := 3) (b := 41) dX7_readRest_40 (by decide) rfl ?_
          refine x_aload_n (i := 0) (b := 42) dX7_readRest_41 rfl rfl rfl ?_
          refine x_getI (v := gI h 7 0 7) (b := 45) fk_X7_29 dX7_readRest_42 (by decide) rfl rfl ?_
          obtain ⟨v1, h2, hq, hF⟩ := bd_e hF
          refine x_callV (as := [xi 3, xi (gI h 7 0 7)]) (rest := []) (b := 48) (c_X7_wrong (d + 2) n 3 (gI h 7 0 7) h _ hL hq) dX7_readRest_45 cw_X7_149 ⟨_, _, rfl, Nat.le_of_ble_eq_true rfl⟩ rfl rfl (Nat.le_of_ble_eq_true rfl) ⟨Nat.le_refl _, Nat.le_refl _⟩ rfl (fun rv hh hp _ => ?_)
          obtain ⟨rfl, rfl, hL⟩ := hp
          obtain ⟨hs, hF⟩ := ck_e hF
          refine x_zreturn dX7_readRest_48 rfl ⟨Nat.le_refl _, Nat.le_refl _⟩ hs ?_
          cases hF
          exact ⟨rfl, rfl, hL⟩
set_option maxHeartbeats 4000000 in
set_option maxRecDepth 100000 in
theorem t_X7_readRest_2 (E : xE) (d : Nat) (rec : Rk) (n : Nat) (r : Int × Hp) (hr_4 : ∀ (x1 x2 x3 : Int) (h : Hp), Lay h → rec 1 [x1, x2, x3] h = some r → X E mX7_readRest (d + 4) (0, 0) (0, 0) 4 [some (xr 7 0), some (xr 4 x1), some (xi x2), some (xi x3), none, none] [] h (PoI r)) (x1 x2 x3 y0 : Int) (h : Hp) (hL : Lay h) (hF : b_X7_readRest_2 rec n x1 x2 x3 y0 h = some r) : X E mX7_readRest (d + 4) (0, 0) (0, 0) 105 [some (xr 7 0), some (xr 4 x1), some (xi x2), some (xi x3), none, none] [xi y0] h (PoI r) := by
  unfold b_X7_readRest_2 at hF
  refine x_istore (i := 5) (b := 107) (ls2 := [some (xr 7 0), some (xr 4 x1), some (xi x2), some (xi x3), none, some (xi y0)]) dX7_readRest_105 (Nat.le_of_ble_eq_true rfl) rfl rfl ?_
  refine x_iload (i := 5) (b := 109) dX7_readRest_107 rfl rfl ?_
  refine x_if_ne (tgt := 114) (b := 112) dX7_readRest_109 (by decide) rfl (fun hc => ?_) (fun hc => ?_)
  · replace hF := br_F hc hF
    obtain ⟨hs, hF⟩ := ck_e hF
    refine x_iinc (i := 3) (b := 117) (ls2 := [some (xr 7 0), some (xr 4 x1), some (xi x2), some (xi (x3 + 1)), none, some (xi y0)]) dX7_readRest_114 rfl (Nat.le_of_ble_eq_true rfl) hs rfl rfl ?_
    refine x_goto (tgt := 4) dX7_readRest_117 (by decide) ?_
    exact x_dp (ls2 := [some (xr 7 0), some (xr 4 x1), some (xi x2), some (xi (x3 + 1)), none, none]) ⟨rfl, rfl, rfl, rfl, trivial⟩ (hr_4 x1 x2 (x3 + 1) h hL hF)
  · replace hF := br_T hc hF
    refine x_iconst (n := 0) (b := 113) dX7_readRest_112 (by decide) rfl ?_
    refine x_zreturn dX7_readRest_113 rfl ⟨Nat.le_refl _, Nat.le_refl _⟩ (by decide) ?_
    cases hF
    exact ⟨rfl, rfl, hL⟩
set_option maxHeartbeats 4000000 in
set_option maxRecDepth 100000 in
theorem u_X7_readRest (E : xE) (d : Nat) (r : Int × Hp) : ∀ n : Nat, (∀ (x1 : Int) (h : Hp), Lay h → g_X7_readRest n 0 [x1] h = some r → X E mX7_readRest (d + 4) (0, 0) (0, 0) 0 [some (xr 7 0), some (xr 4 x1), none, none, none, none] [] h (PoI r)) ∧ (∀ (x1 x2 x3 : Int) (h : Hp), Lay h → g_X7_readRest n 1 [x1, x2, x3] h = some r → X E mX7_readRest (d + 4) (0, 0) (0, 0) 4 [some (xr 7 0), some (xr 4 x1), some (xi x2), some (xi x3), none, none] [] h (PoI r)) ∧ (∀ (x1 x2 x3 y0 : Int) (h : Hp), Lay h → g_X7_readRest n 2 [x1, x2, x3, y0] h = some r → X E mX7_readRest (d + 4) (0, 0) (0, 0) 105 [some (xr 7 0), some (xr 4 x1), some (xi x2), some (xi x3), none, none] [xi y0] h (PoI r)) := by
  intro n
  induction n with
  | zero => exact ⟨fun _ _ _ hF => no_e (r := r) hF, fun _ _ _ _ _ hF => no_e (r := r) hF, fun _ _ _ _ _ _ hF => no_e (r := r) hF⟩
  | succ n ih => exact ⟨fun x1 h hL hF => t_X7_readRest_0 E d (g_X7_readRest n) n r ih.2.1 x1 h hL hF, fun x1 x2 x3 h hL hF => t_X7_readRest_1 E d (g_X7_readRest n) n r ih.2.2 x1 x2 x3 h hL hF, fun x1 x2 x3 y0 h hL hF => t_X7_readRest_2 E d (g_X7_readRest n) n r ih.2.1 x1 x2 x3 y0 h hL hF⟩
theorem c_X7_readRest (d n : Nat) (x1 : Int) (h : Hp) (r : Int × Hp) (hL : Lay h) (hF : f_X7_readRest n x1 h = some r) : Sp mX7_readRest (d + 4) (0, 0) [xr 7 0, xr 4 x1] h (PoI r) :=
  sp_of (by decide) rfl (Nat.le_of_ble_eq_true rfl) (ls := [some (xr 7 0), some (xr 4 x1), none, none, none, none]) rfl (fun E _ => (u_X7_readRest E d r n).1 x1 h hL hF)
theorem dX7_readSea_0 : decode cX7_readSea 0 = .ok (.aload_n 0, 1) := by decide +kernel
theorem dX7_readSea_1 : decode cX7_readSea 1 = .ok (.iconst 0, 1) := by decide +kernel
theorem dX7_readSea_2 : decode cX7_readSea 2 = .ok (.iload_n 1, 1) := by decide +kernel
theorem dX7_readSea_3 : decode cX7_readSea 3 = .ok (.invokevirtual 179, 3) := by decide +kernel
theorem dX7_readSea_6 : decode cX7_readSea 6 = .ok (.ifCond .ne 5, 3) := by decide +kernel
theorem dX7_readSea_9 : decode cX7_readSea 9 = .ok (.iconst 0, 1) := by decide +kernel
theorem dX7_readSea_10 : decode cX7_readSea 10 = .ok (.ireturn, 1) := by decide +kernel
theorem dX7_readSea_11 : decode cX7_readSea 11 = .ok (.aload_n 0, 1) := by decide +kernel
theorem dX7_readSea_12 : decode cX7_readSea 12 = .ok (.iconst 1, 1) := by decide +kernel
theorem dX7_readSea_13 : decode cX7_readSea 13 = .ok (.invokevirtual 155, 3) := by decide +kernel
theorem dX7_readSea_16 : decode cX7_readSea 16 = .ok (.ifCond .ne 27, 3) := by decide +kernel
theorem dX7_readSea_19 : decode cX7_readSea 19 = .ok (.aload_n 0, 1) := by decide +kernel
theorem dX7_readSea_20 : decode cX7_readSea 20 = .ok (.iconst 2, 1) := by decide +kernel
theorem dX7_readSea_21 : decode cX7_readSea 21 = .ok (.invokevirtual 155, 3) := by decide +kernel
theorem dX7_readSea_24 : decode cX7_readSea 24 = .ok (.ifCond .ne 19, 3) := by decide +kernel
theorem dX7_readSea_27 : decode cX7_readSea 27 = .ok (.aload_n 0, 1) := by decide +kernel
theorem dX7_readSea_28 : decode cX7_readSea 28 = .ok (.iconst 3, 1) := by decide +kernel
theorem dX7_readSea_29 : decode cX7_readSea 29 = .ok (.invokevirtual 155, 3) := by decide +kernel
theorem dX7_readSea_32 : decode cX7_readSea 32 = .ok (.ifCond .ne 11, 3) := by decide +kernel
theorem dX7_readSea_35 : decode cX7_readSea 35 = .ok (.aload_n 0, 1) := by decide +kernel
theorem dX7_readSea_36 : decode cX7_readSea 36 = .ok (.iconst 4, 1) := by decide +kernel
theorem dX7_readSea_37 : decode cX7_readSea 37 = .ok (.invokevirtual 155, 3) := by decide +kernel
theorem dX7_readSea_40 : decode cX7_readSea 40 = .ok (.ifCond .eq 10, 3) := by decide +kernel
theorem dX7_readSea_43 : decode cX7_readSea 43 = .ok (.aload_n 0, 1) := by decide +kernel
theorem dX7_readSea_44 : decode cX7_readSea 44 = .ok (.iconst 4, 1) := by decide +kernel
theorem dX7_readSea_45 : decode cX7_readSea 45 = .ok (.iload_n 1, 1) := by decide +kernel
theorem dX7_readSea_46 : decode cX7_readSea 46 = .ok (.invokevirtual 149, 3) := by decide +kernel
theorem dX7_readSea_49 : decode cX7_readSea 49 = .ok (.ireturn, 1) := by decide +kernel
theorem dX7_readSea_50 : decode cX7_readSea 50 = .ok (.aload_n 0, 1) := by decide +kernel
theorem dX7_readSea_51 : decode cX7_readSea 51 = .ok (.iconst 1, 1) := by decide +kernel
theorem dX7_readSea_52 : decode cX7_readSea 52 = .ok (.bipush 8, 2) := by decide +kernel
theorem dX7_readSea_54 : decode cX7_readSea 54 = .ok (.invokevirtual 167, 3) := by decide +kernel
theorem dX7_readSea_57 : decode cX7_readSea 57 = .ok (.ifCond .ne 5, 3) := by decide +kernel
theorem dX7_readSea_60 : decode cX7_readSea 60 = .ok (.iconst 0, 1) := by decide +kernel
theorem dX7_readSea_61 : decode cX7_readSea 61 = .ok (.ireturn, 1) := by decide +kernel
theorem dX7_readSea_62 : decode cX7_readSea 62 = .ok (.aload_n 0, 1) := by decide +kernel
theorem dX7_readSea_63 : decode cX7_readSea 63 = .ok (.getfield 76, 3) := by decide +kernel
theorem dX7_readSea_66 : decode cX7_readSea 66 = .ok (.getfield 158, 3) := by decide +kernel
theorem dX7_readSea_69 : decode cX7_readSea 69 = .ok (.aload_n 0, 1) := by decide +kernel
theorem dX7_readSea_70 : decode cX7_readSea 70 = .ok (.getfield 41, 3) := by decide +kernel
theorem dX7_readSea_73 : decode cX7_readSea 73 = .ok (.putfield 162, 3) := by decide +kernel
theorem dX7_readSea_76 : decode cX7_readSea 76 = .ok (.aload_n 0, 1) := by decide +kernel
theorem dX7_readSea_77 : decode cX7_readSea 77 = .ok (.iconst 1, 1) := by decide +kernel
theorem dX7_readSea_78 : decode cX7_readSea 78 = .ok (.bipush 8, 2) := by decide +kernel
theorem dX7_readSea_80 : decode cX7_readSea 80 = .ok (.invokevirtual 167, 3) := by decide +kernel
theorem dX7_readSea_83 : decode cX7_readSea 83 = .ok (.ifCond .ne 5, 3) := by decide +kernel
theorem dX7_readSea_86 : decode cX7_readSea 86 = .ok (.iconst 0, 1) := by decide +kernel
theorem dX7_readSea_87 : decode cX7_readSea 87 = .ok (.ireturn, 1) := by decide +kernel
theorem dX7_readSea_88 : decode cX7_readSea 88 = .ok (.aload_n 0, 1) := by decide +kernel
theorem dX7_readSea_89 : decode cX7_readSea 89 = .ok (.getfield 76, 3) := by decide +kernel
theorem dX7_readSea_92 : decode cX7_readSea 92 = .ok (.getfield 158, 3) := by decide +kernel
theorem dX7_readSea_95 : decode cX7_readSea 95 = .ok (.aload_n 0, 1) := by decide +kernel
theorem dX7_readSea_96 : decode cX7_readSea 96 = .ok (.getfield 41, 3) := by decide +kernel
theorem dX7_readSea_99 : decode cX7_readSea 99 = .ok (.putfield 170, 3) := by decide +kernel
theorem dX7_readSea_102 : decode cX7_readSea 102 = .ok (.iconst 1, 1) := by decide +kernel
theorem dX7_readSea_103 : decode cX7_readSea 103 = .ok (.ireturn, 1) := by decide +kernel
noncomputable def b_X7_readSea_0 (rec : Rk) (n : Nat) (x1 : Int) (h : Hp) : Option (Int × Hp) :=
  bd (f_X7_tellOnce n 0 x1 h) fun v1 h2 =>
  if v1 = 0 then (
    some (0, h2)
  ) else (
    bd (f_X7_isTold n 1 h2) fun v3 h4 =>
    if v3 = 0 then (
      bd (f_X7_isTold n 2 h4) fun v5 h6 =>
      if v5 = 0 then (
        bd (f_X7_isTold n 3 h6) fun v7 h8 =>
        if v7 = 0 then (
          bd (f_X7_isTold n 4 h8) fun v9 h10 =>
          if v9 = 0 then (
            bd (f_X7_readNumber n 1 8 h10) fun v11 h12 =>
            if v11 = 0 then (
              some (0, h12)
            ) else (
              rf (gR h12 7 0 1) 0 fun j13 =>
              lt (sI h12 9 j13 0 (gI h12 7 0 11)) fun h14 =>
              bd (f_X7_readNumber n 1 8 h14) fun v15 h16 =>
              if v15 = 0 then (
                some (0, h16)
              ) else (
                rf (gR h16 7 0 1) 0 fun j17 =>
                lt (sI h16 9 j17 1 (gI h16 7 0 11)) fun h18 =>
                some (1, h18)
              )
            )
          ) else (
            rec 1 [x1] h10
          )
        ) else (
          rec 1 [x1] h8
        )
      ) else (
        rec 1 [x1] h6
      )
    ) else (
      rec 1 [x1] h4
    )
  )
noncomputable def b_X7_readSea_1 (rec : Rk) (n : Nat) (x1 : Int) (h : Hp) : Option (Int × Hp) :=
  bd (f_X7_wrong n 4 x1 h) fun v1 h2 =>
  ck (0 ≤ v1 ∧ v1 < 2) <|
  some (v1, h2)
noncomputable def g_X7_readSea (n : Nat) : Rk := Nat.rec (motive := fun _ => Rk) (fun _ _ _ => none) (fun n rec k l h => if k = 0 then b_X7_readSea_0 rec n (l.getD 0 0) h else if k = 1 then b_X7_readSea_1 rec n (l.getD 0 0) h else none) n
noncomputable def f_X7_readSea (n : Nat) (x1 : Int) (h : Hp) : Option (Int × Hp) := g_X7_readSea n 0 [x1] h
set_option maxHeartbeats 4000000 in
set_option maxRecDepth 100000 in
theorem t_X7_readSea_0 (E : xE) (d : Nat) (rec : Rk) (n : Nat) (r : Int × Hp) (hr_43 : ∀ (x1 : Int) (h : Hp), Lay h → rec 1 [x1] h = some r → X E mX7_readSea (d + 3) (0, 0) (0, 0) 43 [some (xr 7 0), some (xi x1)] [] h (PoI r)) (x1 : Int) (h : Hp) (hL : Lay h) (hF : b_X7_readSea_0 rec n x1 h = some r) : X E mX7_readSea (d + 3) (0, 0) (0, 0) 0 [some (xr 7 0), some (xi x1)] [] h (PoI r) := by
  unfold b_X7_readSea_0 at hF
  refine x_aload_n (i := 0) (b := 1) dX7_readSea_0 rfl rfl rfl ?_
  refine x_iconst (n := 0) (b := 2) dX7_readSea_1 (by decide) rfl ?_
  refine x_iload_n (i := 1) (b := 3) dX7_readSea_2 rfl rfl rfl ?_
  obtain ⟨v1, h2, hq, hF⟩ := bd_e hF
  refine x_callV (as := [xi 0, xi x1]) (rest := []) (b := 6) (c_X7_tellOnce d n 0 x1 h _ hL hq) dX7_readSea_3 cw_X7_179 ⟨_, _, rfl, Nat.le_of_ble_eq_true rfl⟩ rfl rfl (Nat.le_of_ble_eq_true rfl) ⟨Nat.le_refl _, Nat.le_refl _⟩ rfl (fun rv hh hp _ => ?_)
  obtain ⟨rfl, rfl, hL⟩ := hp
  refine x_if_ne (tgt := 11) (b := 9) dX7_readSea_6 (by decide) rfl (fun hc => ?_) (fun hc => ?_)
  · replace hF := br_F hc hF
    refine x_aload_n (i := 0) (b := 12) dX7_readSea_11 rfl rfl rfl ?_
    refine x_iconst (n := 1) (b := 13) dX7_readSea_12 (by decide) rfl ?_
    obtain ⟨v3, h4, hq, hF⟩ := bd_e hF
    refine x_callV (as := [xi 1]) (rest := []) (b := 16) (c_X7_isTold (d + 1) n 1 h2 _ hL hq) dX7_readSea_13 cw_X7_155 ⟨_, _, rfl, Nat.le_of_ble_eq_true rfl⟩ rfl rfl (Nat.le_of_ble_eq_true rfl) ⟨Nat.le_refl _, Nat.le_refl _⟩ rfl (fun rv hh hp _ => ?_)
    obtain ⟨rfl, rfl, hL⟩ := hp
    refine x_if_ne (tgt := 43) (b := 19) dX7_readSea_16 (by decide) rfl (fun hc => ?_) (fun hc => ?_)
    · replace hF := br_F hc hF
      exact x_dp (ls2 := [some (xr 7 0), some (xi x1)]) ⟨rfl, rfl, trivial⟩ (hr_43 x1 h4 hL hF)
    · replace hF := br_T hc hF
      refine x_aload_n (i := 0) (b := 20) dX7_readSea_19 rfl rfl rfl ?_
      refine x_iconst (n := 2) (b := 21) dX7_readSea_20 (by decide) rfl ?_
      obtain ⟨v5, h6, hq, hF⟩ := bd_e hF
      refine x_callV (as := [xi 2]) (rest := []) (b := 24) (c_X7_isTold (d + 1) n 2 h4 _ hL hq) dX7_readSea_21 cw_X7_155 ⟨_, _, rfl, Nat.le_of_ble_eq_true rfl⟩ rfl rfl (Nat.le_of_ble_eq_true rfl) ⟨Nat.le_refl _, Nat.le_refl _⟩ rfl (fun rv hh hp _ => ?_)
      obtain ⟨rfl, rfl, hL⟩ := hp
      refine x_if_ne (tgt := 43) (b := 27) dX7_readSea_24 (by decide) rfl (fun hc => ?_) (fun hc => ?_)
      · replace hF := br_F hc hF
        exact x_dp (ls2 := [some (xr 7 0), some (xi x1)]) ⟨rfl, rfl, trivial⟩ (hr_43 x1 h6 hL hF)
      · replace hF := br_T hc hF
        refine x_aload_n (i := 0) (b := 28) dX7_readSea_27 rfl rfl rfl ?_
        refine x_iconst (n := 3) (b := 29) dX7_readSea_28 (by decide) rfl ?_
        obtain ⟨v7, h8, hq, hF⟩ := bd_e hF
        refine x_callV (as := [xi 3]) (rest := []) (b := 32) (c_X7_isTold (d + 1) n 3 h6 _ hL hq) dX7_readSea_29 cw_X7_155 ⟨_, _, rfl, Nat.le_of_ble_eq_true rfl⟩ rfl rfl (Nat.le_of_ble_eq_true rfl) ⟨Nat.le_refl _, Nat.le_refl _⟩ rfl (fun rv hh hp _ => ?_)
        obtain ⟨rfl, rfl, hL⟩ := hp
        refine x_if_ne (tgt := 43) (b := 35) dX7_readSea_32 (by decide) rfl (fun hc => ?_) (fun hc => ?_)
        · replace hF := br_F hc hF
          exact x_dp (ls2 := [some (xr 7 0), some (xi x1)]) ⟨rfl, rfl, trivial⟩ (hr_43 x1 h8 hL hF)
        · replace hF := br_T hc hF
          refine x_aload_n (i := 0) (b := 36) dX7_readSea_35 rfl rfl rfl ?_
          refine x_iconst (n := 4) (b := 37) dX7_readSea_36 (by decide) rfl ?_
          obtain ⟨v9, h10, hq, hF⟩ := bd_e hF
          refine x_callV (as := [xi 4]) (rest := []) (b := 40) (c_X7_isTold (d + 1) n 4 h8 _ hL hq) dX7_readSea_37 cw_X7_155 ⟨_, _, rfl, Nat.le_of_ble_eq_true rfl⟩ rfl rfl (Nat.le_of_ble_eq_true rfl) ⟨Nat.le_refl _, Nat.le_refl _⟩ rfl (fun rv hh hp _ => ?_)
          obtain ⟨rfl, rfl, hL⟩ := hp
          refine x_if_eq (tgt := 50) (b := 43) dX7_readSea_40 (by decide) rfl (fun hc => ?_) (fun hc => ?_)
          · replace hF := br_T hc hF
            refine x_aload_n (i := 0) (b := 51) dX7_readSea_50 rfl rfl rfl ?_
            refine x_iconst (n := 1) (b := 52) dX7_readSea_51 (by decide) rfl ?_
            refine x_bipush (n := 8) (b := 54) dX7_readSea_52 (by decide) rfl ?_
            obtain ⟨v11, h12, hq, hF⟩ := bd_e hF
            refine x_callV (as := [xi 1, xi 8]) (rest := []) (b := 57) (c_X7_readNumber d n 1 8 h10 _ hL hq) dX7_readSea_54 cw_X7_167 ⟨_, _, rfl, Nat.le_of_ble_eq_true rfl⟩ rfl rfl (Nat.le_of_ble_eq_true rfl) ⟨Nat.le_refl _, Nat.le_refl _⟩ rfl (fun rv hh hp _ => ?_)
            obtain ⟨rfl, rfl, hL⟩ := hp
            refine x_if_ne (tgt := 62) (b := 60) dX7_readSea_57 (by decide) rfl (fun hc => ?_) (fun hc => ?_)
            · replace hF := br_F hc hF
              refine x_aload_n (i := 0) (b := 63) dX7_readSea_62 rfl rfl rfl ?_
              obtain ⟨j13, e_j13, hF⟩ := rf_e hF
              refine x_getR (v := some (0, j13)) (b := 66) fk_X7_76 dX7_readSea_63 rfl e_j13 rfl ?_
              refine x_getL (j := j13) (t := (9, 0, true)) (b := 69) fk_X7_158 dX7_readSea_66 rfl hL rfl rfl rfl ?_
              refine x_aload_n (i := 0) (b := 70) dX7_readSea_69 rfl rfl rfl ?_
              refine x_getI (v := gI h12 7 0 11) (b := 73) fk_X7_41 dX7_readSea_70 (by decide) rfl rfl ?_
              refine x_putI (b := 76) fk_X7_162 dX7_readSea_73 rfl rfl 0 rfl ?_
              obtain ⟨h14, e_h14, hF⟩ := lt_e hF
              refine x_hp (h2 := h14) e_h14 ?_
              replace hL : Lay h14 := by rw [← e_h14]; exact hL
              refine x_aload_n (i := 0) (b := 77) dX7_readSea_76 rfl rfl rfl ?_
              refine x_iconst (n := 1) (b := 78) dX7_readSea_77 (by decide) rfl ?_
              refine x_bipush (n := 8) (b := 80) dX7_readSea_78 (by decide) rfl ?_
              obtain ⟨v15, h16, hq, hF⟩ := bd_e hF
              refine x_callV (as := [xi 1, xi 8]) (rest := []) (b := 83) (c_X7_readNumber d n 1 8 h14 _ hL hq) dX7_readSea_80 cw_X7_167 ⟨_, _, rfl, Nat.le_of_ble_eq_true rfl⟩ rfl rfl (Nat.le_of_ble_eq_true rfl) ⟨Nat.le_refl _, Nat.le_refl _⟩ rfl (fun rv hh hp _ => ?_)
              obtain ⟨rfl, rfl, hL⟩ := hp
              refine x_if_ne (tgt := 88) (b := 86) dX7_readSea_83 (by decide) rfl (fun hc => ?_) (fun hc => ?_)
              · replace hF := br_F hc hF
                refine x_aload_n (i := 0) (b := 89) dX7_readSea_88 rfl rfl rfl ?_
                obtain ⟨j17, e_j17, hF⟩ := rf_e hF
                refine x_getR (v := some (0, j17)) (b := 92) fk_X7_76 dX7_readSea_89 rfl e_j17 rfl ?_
                refine x_getL (j := j17) (t := (9, 0, true)) (b := 95) fk_X7_158 dX7_readSea_92 rfl hL rfl rfl rfl ?_
                refine x_aload_n (i := 0) (b := 96) dX7_readSea_95 rfl rfl rfl ?_
                refine x_getI (v := gI h16 7 0 11) (b := 99) fk_X7_41 dX7_readSea_96 (by decide) rfl rfl ?_
                refine x_putI (b := 102) fk_X7_170 dX7_readSea_99 rfl rfl 1 rfl ?_
                obtain ⟨h18, e_h18, hF⟩ := lt_e hF
                refine x_hp (h2 := h18) e_h18 ?_
                replace hL : Lay h18 := by rw [← e_h18]; exact hL
                refine x_iconst (n := 1) (b := 103) dX7_readSea_102 (by decide) rfl ?_
                refine x_zreturn dX7_readSea_103 rfl ⟨Nat.le_refl _, Nat.le_refl _⟩ (by decide) ?_
                cases hF
                exact ⟨rfl, rfl, hL⟩
              · replace hF := br_T hc hF
                refine x_iconst (n := 0) (b := 87) dX7_readSea_86 (by decide) rfl ?_
                refine x_zreturn dX7_readSea_87 rfl ⟨Nat.le_refl _, Nat.le_refl _⟩ (by decide) ?_
                cases hF
                exact ⟨rfl, rfl, hL⟩
            · replace hF := br_T hc hF
              refine x_iconst (n := 0) (b := 61) dX7_readSea_60 (by decide) rfl ?_
              refine x_zreturn dX7_readSea_61 rfl ⟨Nat.le_refl _, Nat.le_refl _⟩ (by decide) ?_
              cases hF
              exact ⟨rfl, rfl, hL⟩
          · replace hF := br_F hc hF
            exact x_dp (ls2 := [some (xr 7 0), some (xi x1)]) ⟨rfl, rfl, trivial⟩ (hr_43 x1 h10 hL hF)
  · replace hF := br_T hc hF
    refine x_iconst (n := 0) (b := 10) dX7_readSea_9 (by decide) rfl ?_
    refine x_zreturn dX7_readSea_10 rfl ⟨Nat.le_refl _, Nat.le_refl _⟩ (by decide) ?_
    cases hF
    exact ⟨rfl, rfl, hL⟩
set_option maxHeartbeats 4000000 in
set_option maxRecDepth 100000 in
theorem t_X7_readSea_1 (E : xE) (d : Nat) (rec : Rk) (n : Nat) (r : Int × Hp) (x1 : Int) (h : Hp) (hL : Lay h) (hF : b_X7_readSea_1 rec n x1 h = some r) : X E mX7_readSea (d + 3) (0, 0) (0, 0) 43 [some (xr 7 0), some (xi x1)] [] h (PoI r) := by
  unfold b_X7_readSea_1 at hF
  refine x_aload_n (i := 0) (b := 44) dX7_readSea_43 rfl rfl rfl ?_
  refine x_iconst (n := 4) (b := 45) dX7_readSea_44 (by decide) rfl ?_
  refine x_iload_n (i := 1) (b := 46) dX7_readSea_45 rfl rfl rfl ?_
  obtain ⟨v1, h2, hq, hF⟩ := bd_e hF
  refine x_callV (as := [xi 4, xi x1]) (rest := []) (b := 49) (c_X7_wrong (d + 1) n 4 x1 h _ hL hq) dX7_readSea_46 cw_X7_149 ⟨_, _, rfl, Nat.le_of_ble_eq_true rfl⟩ rfl rfl (Nat.le_of_ble_eq_true rfl) ⟨Nat.le_refl _, Nat.le_refl _⟩ rfl (fun rv hh hp _ => ?_)
  obtain ⟨rfl, rfl, hL⟩ := hp
  obtain ⟨hs, hF⟩ := ck_e hF
  refine x_zreturn dX7_readSea_49 rfl ⟨Nat.le_refl _, Nat.le_refl _⟩ hs ?_
  cases hF
  exact ⟨rfl, rfl, hL⟩
set_option maxHeartbeats 4000000 in
set_option maxRecDepth 100000 in
theorem u_X7_readSea (E : xE) (d : Nat) (r : Int × Hp) : ∀ n : Nat, (∀ (x1 : Int) (h : Hp), Lay h → g_X7_readSea n 0 [x1] h = some r → X E mX7_readSea (d + 3) (0, 0) (0, 0) 0 [some (xr 7 0), some (xi x1)] [] h (PoI r)) ∧ (∀ (x1 : Int) (h : Hp), Lay h → g_X7_readSea n 1 [x1] h = some r → X E mX7_readSea (d + 3) (0, 0) (0, 0) 43 [some (xr 7 0), some (xi x1)] [] h (PoI r)) := by
  intro n
  induction n with
  | zero => exact ⟨fun _ _ _ hF => no_e (r := r) hF, fun _ _ _ hF => no_e (r := r) hF⟩
  | succ n ih => exact ⟨fun x1 h hL hF => t_X7_readSea_0 E d (g_X7_readSea n) n r ih.2 x1 h hL hF, fun x1 h hL hF => t_X7_readSea_1 E d (g_X7_readSea n) n r  x1 h hL hF⟩
theorem c_X7_readSea (d n : Nat) (x1 : Int) (h : Hp) (r : Int × Hp) (hL : Lay h) (hF : f_X7_readSea n x1 h = some r) : Sp mX7_readSea (d + 3) (0, 0) [xr 7 0, xi x1] h (PoI r) :=
  sp_of (by decide) rfl (Nat.le_of_ble_eq_true rfl) (ls := [some (xr 7 0), some (xi x1)]) rfl (fun E _ => (u_X7_readSea E d r n).1 x1 h hL hF)
theorem dX7_readShip_0 : decode cX7_readShip 0 = .ok (.aload_n 0, 1) := by decide +kernel
theorem dX7_readShip_1 : decode cX7_readShip 1 = .ok (.iload_n 1, 1) := by decide +kernel
theorem dX7_readShip_2 : decode cX7_readShip 2 = .ok (.iload_n 2, 1) := by decide +kernel
theorem dX7_readShip_3 : decode cX7_readShip 3 = .ok (.invokevirtual 179, 3) := by decide +kernel
theorem dX7_readShip_6 : decode cX7_readShip 6 = .ok (.ifCond .eq 10, 3) := by decide +kernel
theorem dX7_readShip_9 : decode cX7_readShip 9 = .ok (.aload_n 0, 1) := by decide +kernel
theorem dX7_readShip_10 : decode cX7_readShip 10 = .ok (.invokevirtual 198, 3) := by decide +kernel
theorem dX7_readShip_13 : decode cX7_readShip 13 = .ok (.ifCond .ne 5, 3) := by decide +kernel
theorem dX7_readShip_16 : decode cX7_readShip 16 = .ok (.iconst 0, 1) := by decide +kernel
theorem dX7_readShip_17 : decode cX7_readShip 17 = .ok (.ireturn, 1) := by decide +kernel
theorem dX7_readShip_18 : decode cX7_readShip 18 = .ok (.iload_n 1, 1) := by decide +kernel
theorem dX7_readShip_19 : decode cX7_readShip 19 = .ok (.iconst 2, 1) := by decide +kernel
theorem dX7_readShip_20 : decode cX7_readShip 20 = .ok (.if_icmp .ne 20, 3) := by decide +kernel
theorem dX7_readShip_23 : decode cX7_readShip 23 = .ok (.aload_n 0, 1) := by decide +kernel
theorem dX7_readShip_24 : decode cX7_readShip 24 = .ok (.getfield 76, 3) := by decide +kernel
theorem dX7_readShip_27 : decode cX7_readShip 27 = .ok (.getfield 158, 3) := by decide +kernel
theorem dX7_readShip_30 : decode cX7_readShip 30 = .ok (.aload_n 0, 1) := by decide +kernel
theorem dX7_readShip_31 : decode cX7_readShip 31 = .ok (.getfield 41, 3) := by decide +kernel
theorem dX7_readShip_34 : decode cX7_readShip 34 = .ok (.putfield 185, 3) := by decide +kernel
theorem dX7_readShip_37 : decode cX7_readShip 37 = .ok (.goto 17, 3) := by decide +kernel
theorem dX7_readShip_40 : decode cX7_readShip 40 = .ok (.aload_n 0, 1) := by decide +kernel
theorem dX7_readShip_41 : decode cX7_readShip 41 = .ok (.getfield 76, 3) := by decide +kernel
theorem dX7_readShip_44 : decode cX7_readShip 44 = .ok (.getfield 158, 3) := by decide +kernel
theorem dX7_readShip_47 : decode cX7_readShip 47 = .ok (.aload_n 0, 1) := by decide +kernel
theorem dX7_readShip_48 : decode cX7_readShip 48 = .ok (.getfield 41, 3) := by decide +kernel
theorem dX7_readShip_51 : decode cX7_readShip 51 = .ok (.putfield 188, 3) := by decide +kernel
theorem dX7_readShip_54 : decode cX7_readShip 54 = .ok (.iconst 1, 1) := by decide +kernel
theorem dX7_readShip_55 : decode cX7_readShip 55 = .ok (.ireturn, 1) := by decide +kernel
noncomputable def b_X7_readShip_0 (rec : Rk) (n : Nat) (x1 x2 : Int) (h : Hp) : Option (Int × Hp) :=
  bd (f_X7_tellOnce n x1 x2 h) fun v1 h2 =>
  if v1 = 0 then (
    some (0, h2)
  ) else (
    bd (f_X7_readCellOfWater n h2) fun v3 h4 =>
    if v3 = 0 then (
      some (0, h4)
    ) else (
      if x1 = 2 then (
        rf (gR h4 7 0 1) 0 fun j5 =>
        lt (sI h4 9 j5 4 (gI h4 7 0 11)) fun h6 =>
        some (1, h6)
      ) else (
        rf (gR h4 7 0 1) 0 fun j7 =>
        lt (sI h4 9 j7 5 (gI h4 7 0 11)) fun h8 =>
        some (1, h8)
      )
    )
  )
noncomputable def g_X7_readShip (n : Nat) : Rk := Nat.rec (motive := fun _ => Rk) (fun _ _ _ => none) (fun n rec k l h => if k = 0 then b_X7_readShip_0 rec n (l.getD 0 0) (l.getD 1 0) h else none) n
noncomputable def f_X7_readShip (n : Nat) (x1 x2 : Int) (h : Hp) : Option (Int × Hp) := g_X7_readShip n 0 [x1, x2] h
set_option maxHeartbeats 4000000 in
set_option maxRecDepth 100000 in
theorem t_X7_readShip_0 (E : xE) (d : Nat) (rec : Rk) (n : Nat) (r : Int × Hp) (x1 x2 : Int) (h : Hp) (hL : Lay h) (hF : b_X7_readShip_0 rec n x1 x2 h = some r) : X E mX7_readShip (d + 5) (0, 0) (0, 0) 0 [some (xr 7 0), some (xi x1), some (xi x2)] [] h (PoI r) := by
  unfold b_X7_readShip_0 at hF
  refine x_aload_n (i := 0) (b := 1) dX7_readShip_0 rfl rfl rfl ?_
  refine x_iload_n (i := 1) (b := 2) dX7_readShip_1 rfl rfl rfl ?_
  refine x_iload_n (i := 2) (b := 3) dX7_readShip_2 rfl rfl rfl ?_
  obtain ⟨v1, h2, hq, hF⟩ := bd_e hF
  refine x_callV (as := [xi x1, xi x2]) (rest := []) (b := 6) (c_X7_tellOnce (d + 2) n x1 x2 h _ hL hq) dX7_readShip_3 cw_X7_179 ⟨_, _, rfl, Nat.le_of_ble_eq_true rfl⟩ rfl rfl (Nat.le_of_ble_eq_true rfl) ⟨Nat.le_refl _, Nat.le_refl _⟩ rfl (fun rv hh hp _ => ?_)
  obtain ⟨rfl, rfl, hL⟩ := hp
  refine x_if_eq (tgt := 16) (b := 9) dX7_readShip_6 (by decide) rfl (fun hc => ?_) (fun hc => ?_)
  · replace hF := br_T hc hF
    refine x_iconst (n := 0) (b := 17) dX7_readShip_16 (by decide) rfl ?_
    refine x_zreturn dX7_readShip_17 rfl ⟨Nat.le_refl _, Nat.le_refl _⟩ (by decide) ?_
    cases hF
    exact ⟨rfl, rfl, hL⟩
  · replace hF := br_F hc hF
    refine x_aload_n (i := 0) (b := 10) dX7_readShip_9 rfl rfl rfl ?_
    obtain ⟨v3, h4, hq, hF⟩ := bd_e hF
    refine x_callV (as := []) (rest := []) (b := 13) (c_X7_readCellOfWater d n h2 _ hL hq) dX7_readShip_10 cw_X7_198 ⟨_, _, rfl, Nat.le_of_ble_eq_true rfl⟩ rfl rfl (Nat.le_of_ble_eq_true rfl) ⟨Nat.le_refl _, Nat.le_refl _⟩ rfl (fun rv hh hp _ => ?_)
    obtain ⟨rfl, rfl, hL⟩ := hp
    refine x_if_ne (tgt := 18) (b := 16) dX7_readShip_13 (by decide) rfl (fun hc => ?_) (fun hc => ?_)
    · replace hF := br_F hc hF
      refine x_iload_n (i := 1) (b := 19) dX7_readShip_18 rfl rfl rfl ?_
      refine x_iconst (n := 2) (b := 20) dX7_readShip_19 (by decide) rfl ?_
      refine x_icmp_ne (tgt := 40) (b := 23) dX7_readShip_20 (by decide) rfl (fun hc => ?_) (fun hc => ?_)
      · replace hF := br_F hc hF
        refine x_aload_n (i := 0) (b := 41) dX7_readShip_40 rfl rfl rfl ?_
        obtain ⟨j7, e_j7, hF⟩ := rf_e hF
        refine x_getR (v := some (0, j7)) (b := 44) fk_X7_76 dX7_readShip_41 rfl e_j7 rfl ?_
        refine x_getL (j := j7) (t := (9, 0, true)) (b := 47) fk_X7_158 dX7_readShip_44 rfl hL rfl rfl rfl ?_
        refine x_aload_n (i := 0) (b := 48) dX7_readShip_47 rfl rfl rfl ?_
        refine x_getI (v := gI h4 7 0 11) (b := 51) fk_X7_41 dX7_readShip_48 (by decide) rfl rfl ?_
        refine x_putI (b := 54) fk_X7_188 dX7_readShip_51 rfl rfl 5 rfl ?_
        obtain ⟨h8, e_h8, hF⟩ := lt_e hF
        refine x_hp (h2 := h8) e_h8 ?_
        replace hL : Lay h8 := by rw [← e_h8]; exact hL
        refine x_iconst (n := 1) (b := 55) dX7_readShip_54 (by decide) rfl ?_
        refine x_zreturn dX7_readShip_55 rfl ⟨Nat.le_refl _, Nat.le_refl _⟩ (by decide) ?_
        cases hF
        exact ⟨rfl, rfl, hL⟩
      · replace hF := br_T hc hF
        refine x_aload_n (i := 0) (b := 24) dX7_readShip_23 rfl rfl rfl ?_
        obtain ⟨j5, e_j5, hF⟩ := rf_e hF
        refine x_getR (v := some (0, j5)) (b := 27) fk_X7_76 dX7_readShip_24 rfl e_j5 rfl ?_
        refine x_getL (j := j5) (t := (9, 0, true)) (b := 30) fk_X7_158 dX7_readShip_27 rfl hL rfl rfl rfl ?_
        refine x_aload_n (i := 0) (b := 31) dX7_readShip_30 rfl rfl rfl ?_
        refine x_getI (v := gI h4 7 0 11) (b := 34) fk_X7_41 dX7_readShip_31 (by decide) rfl rfl ?_
        refine x_putI (b := 37) fk_X7_185 dX7_readShip_34 rfl rfl 4 rfl ?_
        obtain ⟨h6, e_h6, hF⟩ := lt_e hF
        refine x_hp (h2 := h6) e_h6 ?_
        replace hL : Lay h6 := by rw [← e_h6]; exact hL
        refine x_goto (tgt := 54) dX7_readShip_37 (by decide) ?_
        refine x_iconst (n := 1) (b := 55) dX7_readShip_54 (by decide) rfl ?_
        refine x_zreturn dX7_readShip_55 rfl ⟨Nat.le_refl _, Nat.le_refl _⟩ (by decide) ?_
        cases hF
        exact ⟨rfl, rfl, hL⟩
    · replace hF := br_T hc hF
      refine x_iconst (n := 0) (b := 17) dX7_readShip_16 (by decide) rfl ?_
      refine x_zreturn dX7_readShip_17 rfl ⟨Nat.le_refl _, Nat.le_refl _⟩ (by decide) ?_
      cases hF
      exact ⟨rfl, rfl, hL⟩
set_option maxHeartbeats 4000000 in
set_option maxRecDepth 100000 in
theorem u_X7_readShip (E : xE) (d : Nat) (r : Int × Hp) : ∀ n : Nat, (∀ (x1 x2 : Int) (h : Hp), Lay h → g_X7_readShip n 0 [x1, x2] h = some r → X E mX7_readShip (d + 5) (0, 0) (0, 0) 0 [some (xr 7 0), some (xi x1), some (xi x2)] [] h (PoI r)) := by
  intro n
  induction n with
  | zero => exact fun _ _ _ _ hF => no_e (r := r) hF
  | succ n ih => exact fun x1 x2 h hL hF => t_X7_readShip_0 E d (g_X7_readShip n) n r  x1 x2 h hL hF
theorem c_X7_readShip (d n : Nat) (x1 x2 : Int) (h : Hp) (r : Int × Hp) (hL : Lay h) (hF : f_X7_readShip n x1 x2 h = some r) : Sp mX7_readShip (d + 5) (0, 0) [xr 7 0, xi x1, xi x2] h (PoI r) :=
  sp_of (by decide) rfl (Nat.le_of_ble_eq_true rfl) (ls := [some (xr 7 0), some (xi x1), some (xi x2)]) rfl (fun E _ => (u_X7_readShip E d r n) x1 x2 h hL hF)
theorem dX7_readStore_0 : decode cX7_readStore 0 = .ok (.aload_n 0, 1) := by decide +kernel
theorem dX7_readStore_1 : decode cX7_readStore 1 = .ok (.iload_n 1, 1) := by decide +kernel
theorem dX7_readStore_2 : decode cX7_readStore 2 = .ok (.iload_n 2, 1) := by decide +kernel
theorem dX7_readStore_3 : decode cX7_readStore 3 = .ok (.invokevirtual 179, 3) := by decide +kernel
theorem dX7_readStore_6 : decode cX7_readStore 6 = .ok (.ifCond .eq 25, 3) := by decide +kernel
theorem dX7_readStore_9 : decode cX7_readStore 9 = .ok (.aload_n 0, 1) := by decide +kernel
theorem dX7_readStore_10 : decode cX7_readStore 10 = .ok (.iconst 0, 1) := by decide +kernel
theorem dX7_readStore_11 : decode cX7_readStore 11 = .ok (.iload_n 1, 1) := by decide +kernel
theorem dX7_readStore_12 : decode cX7_readStore 12 = .ok (.bipush 8, 2) := by decide +kernel
theorem dX7_readStore_14 : decode cX7_readStore 14 = .ok (.if_icmp .ne 9, 3) := by decide +kernel
theorem dX7_readStore_17 : decode cX7_readStore 17 = .ok (.sipush 9999, 3) := by decide +kernel
theorem dX7_readStore_20 : decode cX7_readStore 20 = .ok (.goto 5, 3) := by decide +kernel
theorem dX7_readStore_23 : decode cX7_readStore 23 = .ok (.ldc 244, 2) := by decide +kernel
theorem dX7_readStore_25 : decode cX7_readStore 25 = .ok (.invokevirtual 167, 3) := by decide +kernel
theorem dX7_readStore_28 : decode cX7_readStore 28 = .ok (.ifCond .ne 5, 3) := by decide +kernel
theorem dX7_readStore_31 : decode cX7_readStore 31 = .ok (.iconst 0, 1) := by decide +kernel
theorem dX7_readStore_32 : decode cX7_readStore 32 = .ok (.ireturn, 1) := by decide +kernel
theorem dX7_readStore_33 : decode cX7_readStore 33 = .ok (.iload_n 1, 1) := by decide +kernel
theorem dX7_readStore_34 : decode cX7_readStore 34 = .ok (.bipush 8, 2) := by decide +kernel
theorem dX7_readStore_36 : decode cX7_readStore 36 = .ok (.if_icmp .ne 17, 3) := by decide +kernel
theorem dX7_readStore_39 : decode cX7_readStore 39 = .ok (.aload_n 0, 1) := by decide +kernel
theorem dX7_readStore_40 : decode cX7_readStore 40 = .ok (.getfield 76, 3) := by decide +kernel
theorem dX7_readStore_43 : decode cX7_readStore 43 = .ok (.aload_n 0, 1) := by decide +kernel
theorem dX7_readStore_44 : decode cX7_readStore 44 = .ok (.getfield 41, 3) := by decide +kernel
theorem dX7_readStore_47 : decode cX7_readStore 47 = .ok (.putfield 245, 3) := by decide +kernel
theorem dX7_readStore_50 : decode cX7_readStore 50 = .ok (.goto 14, 3) := by decide +kernel
theorem dX7_readStore_53 : decode cX7_readStore 53 = .ok (.aload_n 0, 1) := by decide +kernel
theorem dX7_readStore_54 : decode cX7_readStore 54 = .ok (.getfield 76, 3) := by decide +kernel
theorem dX7_readStore_57 : decode cX7_readStore 57 = .ok (.aload_n 0, 1) := by decide +kernel
theorem dX7_readStore_58 : decode cX7_readStore 58 = .ok (.getfield 41, 3) := by decide +kernel
theorem dX7_readStore_61 : decode cX7_readStore 61 = .ok (.putfield 248, 3) := by decide +kernel
theorem dX7_readStore_64 : decode cX7_readStore 64 = .ok (.iconst 1, 1) := by decide +kernel
theorem dX7_readStore_65 : decode cX7_readStore 65 = .ok (.ireturn, 1) := by decide +kernel
noncomputable def b_X7_readStore_0 (rec : Rk) (n : Nat) (x1 x2 : Int) (h : Hp) : Option (Int × Hp) :=
  bd (f_X7_tellOnce n x1 x2 h) fun v1 h2 =>
  if v1 = 0 then (
    some (0, h2)
  ) else (
    if x1 = 8 then (
      rec 1 [x1, 9999, 0] h2
    ) else (
      rec 1 [x1, 99999, 0] h2
    )
  )
noncomputable def b_X7_readStore_1 (rec : Rk) (n : Nat) (x1 y0 y1 : Int) (h : Hp) : Option (Int × Hp) :=
  bd (f_X7_readNumber n y1 y0 h) fun v1 h2 =>
  if v1 = 0 then (
    some (0, h2)
  ) else (
    if x1 = 8 then (
      rf (gR h2 7 0 1) 0 fun j3 =>
      lt (sI h2 0 j3 13 (gI h2 7 0 11)) fun h4 =>
      some (1, h4)
    ) else (
      rf (gR h2 7 0 1) 0 fun j5 =>
      lt (sI h2 0 j5 14 (gI h2 7 0 11)) fun h6 =>
      some (1, h6)
    )
  )
noncomputable def g_X7_readStore (n : Nat) : Rk := Nat.rec (motive := fun _ => Rk) (fun _ _ _ => none) (fun n rec k l h => if k = 0 then b_X7_readStore_0 rec n (l.getD 0 0) (l.getD 1 0) h else if k = 1 then b_X7_readStore_1 rec n (l.getD 0 0) (l.getD 1 0) (l.getD 2 0) h else none) n
noncomputable def f_X7_readStore (n : Nat) (x1 x2 : Int) (h : Hp) : Option (Int × Hp) := g_X7_readStore n 0 [x1, x2] h
set_option maxHeartbeats 4000000 in
set_option maxRecDepth 100000 in
theorem t_X7_readStore_0 (E : xE) (d : Nat) (rec : Rk) (n : Nat) (r : Int × Hp) (hr_25 : ∀ (x1 y0 y1 : Int) (h : Hp), Lay h → rec 1 [x1, y0, y1] h = some r → X E mX7_readStore (d + 3) (0, 0) (0, 0) 25 [some (xr 7 0), some (xi x1), none] [xi y0, xi y1, xr 7 0] h (PoI r)) (x1 x2 : Int) (h : Hp) (hL : Lay h) (hF : b_X7_readStore_0 rec n x1 x2 h = some r) : X E mX7_readStore (d + 3) (0, 0) (0, 0) 0 [some (xr 7 0), some (xi x1), some (xi x2)] [] h (PoI r) := by
  unfold b_X7_readStore_0 at hF
  refine x_aload_n (i := 0) (b := 1) dX7_readStore_0 rfl rfl rfl ?_
  refine x_iload_n (i := 1) (b := 2) dX7_readStore_1 rfl rfl rfl ?_
  refine x_iload_n (i := 2) (b := 3) dX7_readStore_2 rfl rfl rfl ?_
  obtain ⟨v1, h2, hq, hF⟩ := bd_e hF
  refine x_callV (as := [xi x1, xi x2]) (rest := []) (b := 6) (c_X7_tellOnce d n x1 x2 h _ hL hq) dX7_readStore_3 cw_X7_179 ⟨_, _, rfl, Nat.le_of_ble_eq_true rfl⟩ rfl rfl (Nat.le_of_ble_eq_true rfl) ⟨Nat.le_refl _, Nat.le_refl _⟩ rfl (fun rv hh hp _ => ?_)
  obtain ⟨rfl, rfl, hL⟩ := hp
  refine x_if_eq (tgt := 31) (b := 9) dX7_readStore_6 (by decide) rfl (fun hc => ?_) (fun hc => ?_)
  · replace hF := br_T hc hF
    refine x_iconst (n := 0) (b := 32) dX7_readStore_31 (by decide) rfl ?_
    refine x_zreturn dX7_readStore_32 rfl ⟨Nat.le_refl _, Nat.le_refl _⟩ (by decide) ?_
    cases hF
    exact ⟨rfl, rfl, hL⟩
  · replace hF := br_F hc hF
    refine x_aload_n (i := 0) (b := 10) dX7_readStore_9 rfl rfl rfl ?_
    refine x_iconst (n := 0) (b := 11) dX7_readStore_10 (by decide) rfl ?_
    refine x_iload_n (i := 1) (b := 12) dX7_readStore_11 rfl rfl rfl ?_
    refine x_bipush (n := 8) (b := 14) dX7_readStore_12 (by decide) rfl ?_
    refine x_icmp_ne (tgt := 23) (b := 17) dX7_readStore_14 (by decide) rfl (fun hc => ?_) (fun hc => ?_)
    · replace hF := br_F hc hF
      refine x_ldc (z := 99999) (b := 25) dX7_readStore_23 kw_943 (by decide) rfl ?_
      exact x_dp (ls2 := [some (xr 7 0), some (xi x1), none]) ⟨rfl, rfl, trivial⟩ (hr_25 x1 99999 0 h2 hL hF)
    · replace hF := br_T hc hF
      refine x_sipush (n := 9999) (b := 20) dX7_readStore_17 (by decide) rfl ?_
      refine x_goto (tgt := 25) dX7_readStore_20 (by decide) ?_
      exact x_dp (ls2 := [some (xr 7 0), some (xi x1), none]) ⟨rfl, rfl, trivial⟩ (hr_25 x1 9999 0 h2 hL hF)
set_option maxHeartbeats 4000000 in
set_option maxRecDepth 100000 in
theorem t_X7_readStore_1 (E : xE) (d : Nat) (rec : Rk) (n : Nat) (r : Int × Hp) (x1 y0 y1 : Int) (h : Hp) (hL : Lay h) (hF : b_X7_readStore_1 rec n x1 y0 y1 h = some r) : X E mX7_readStore (d + 3) (0, 0) (0, 0) 25 [some (xr 7 0), some (xi x1), none] [xi y0, xi y1, xr 7 0] h (PoI r) := by
  unfold b_X7_readStore_1 at hF
  obtain ⟨v1, h2, hq, hF⟩ := bd_e hF
  refine x_callV (as := [xi y1, xi y0]) (rest := []) (b := 28) (c_X7_readNumber d n y1 y0 h _ hL hq) dX7_readStore_25 cw_X7_167 ⟨_, _, rfl, Nat.le_of_ble_eq_true rfl⟩ rfl rfl (Nat.le_of_ble_eq_true rfl) ⟨Nat.le_refl _, Nat.le_refl _⟩ rfl (fun rv hh hp _ => ?_)
  obtain ⟨rfl, rfl, hL⟩ := hp
  refine x_if_ne (tgt := 33) (b := 31) dX7_readStore_28 (by decide) rfl (fun hc => ?_) (fun hc => ?_)
  · replace hF := br_F hc hF
    refine x_iload_n (i := 1) (b := 34) dX7_readStore_33 rfl rfl rfl ?_
    refine x_bipush (n := 8) (b := 36) dX7_readStore_34 (by decide) rfl ?_
    refine x_icmp_ne (tgt := 53) (b := 39) dX7_readStore_36 (by decide) rfl (fun hc => ?_) (fun hc => ?_)
    · replace hF := br_F hc hF
      refine x_aload_n (i := 0) (b := 54) dX7_readStore_53 rfl rfl rfl ?_
      obtain ⟨j5, e_j5, hF⟩ := rf_e hF
      refine x_getR (v := some (0, j5)) (b := 57) fk_X7_76 dX7_readStore_54 rfl e_j5 rfl ?_
      refine x_aload_n (i := 0) (b := 58) dX7_readStore_57 rfl rfl rfl ?_
      refine x_getI (v := gI h2 7 0 11) (b := 61) fk_X7_41 dX7_readStore_58 (by decide) rfl rfl ?_
      refine x_putI (b := 64) fk_X7_248 dX7_readStore_61 rfl rfl 14 rfl ?_
      obtain ⟨h6, e_h6, hF⟩ := lt_e hF
      refine x_hp (h2 := h6) e_h6 ?_
      replace hL : Lay h6 := by rw [← e_h6]; exact hL
      refine x_iconst (n := 1) (b := 65) dX7_readStore_64 (by decide) rfl ?_
      refine x_zreturn dX7_readStore_65 rfl ⟨Nat.le_refl _, Nat.le_refl _⟩ (by decide) ?_
      cases hF
      exact ⟨rfl, rfl, hL⟩
    · replace hF := br_T hc hF
      refine x_aload_n (i := 0) (b := 40) dX7_readStore_39 rfl rfl rfl ?_
      obtain ⟨j3, e_j3, hF⟩ := rf_e hF
      refine x_getR (v := some (0, j3)) (b := 43) fk_X7_76 dX7_readStore_40 rfl e_j3 rfl ?_
      refine x_aload_n (i := 0) (b := 44) dX7_readStore_43 rfl rfl rfl ?_
      refine x_getI (v := gI h2 7 0 11) (b := 47) fk_X7_41 dX7_readStore_44 (by decide) rfl rfl ?_
      refine x_putI (b := 50) fk_X7_245 dX7_readStore_47 rfl rfl 13 rfl ?_
      obtain ⟨h4, e_h4, hF⟩ := lt_e hF
      refine x_hp (h2 := h4) e_h4 ?_
      replace hL : Lay h4 := by rw [← e_h4]; exact hL
      refine x_goto (tgt := 64) dX7_readStore_50 (by decide) ?_
      refine x_iconst (n := 1) (b := 65) dX7_readStore_64 (by decide) rfl ?_
      refine x_zreturn dX7_readStore_65 rfl ⟨Nat.le_refl _, Nat.le_refl _⟩ (by decide) ?_
      cases hF
      exact ⟨rfl, rfl, hL⟩
  · replace hF := br_T hc hF
    refine x_iconst (n := 0) (b := 32) dX7_readStore_31 (by decide) rfl ?_
    refine x_zreturn dX7_readStore_32 rfl ⟨Nat.le_refl _, Nat.le_refl _⟩ (by decide) ?_
    cases hF
    exact ⟨rfl, rfl, hL⟩
set_option maxHeartbeats 4000000 in
set_option maxRecDepth 100000 in
theorem u_X7_readStore (E : xE) (d : Nat) (r : Int × Hp) : ∀ n : Nat, (∀ (x1 x2 : Int) (h : Hp), Lay h → g_X7_readStore n 0 [x1, x2] h = some r → X E mX7_readStore (d + 3) (0, 0) (0, 0) 0 [some (xr 7 0), some (xi x1), some (xi x2)] [] h (PoI r)) ∧ (∀ (x1 y0 y1 : Int) (h : Hp), Lay h → g_X7_readStore n 1 [x1, y0, y1] h = some r → X E mX7_readStore (d + 3) (0, 0) (0, 0) 25 [some (xr 7 0), some (xi x1), none] [xi y0, xi y1, xr 7 0] h (PoI r)) := by
  intro n
  induction n with
  | zero => exact ⟨fun _ _ _ _ hF => no_e (r := r) hF, fun _ _ _ _ _ hF => no_e (r := r) hF⟩
  | succ n ih => exact ⟨fun x1 x2 h hL hF => t_X7_readStore_0 E d (g_X7_readStore n) n r ih.2 x1 x2 h hL hF, fun x1 y0 y1 h hL hF => t_X7_readStore_1 E d (g_X7_readStore n) n r  x1 y0 y1 h hL hF⟩
theorem c_X7_readStore (d n : Nat) (x1 x2 : Int) (h : Hp) (r : Int × Hp) (hL : Lay h) (hF : f_X7_readStore n x1 x2 h = some r) : Sp mX7_readStore (d + 3) (0, 0) [xr 7 0, xi x1, xi x2] h (PoI r) :=
  sp_of (by decide) rfl (Nat.le_of_ble_eq_true rfl) (ls := [some (xr 7 0), some (xi x1), some (xi x2)]) rfl (fun E _ => (u_X7_readStore E d r n).1 x1 x2 h hL hF)
theorem dX7_readStorm_0 : decode cX7_readStorm 0 = .ok (.aload_n 0, 1) := by decide +kernel
theorem dX7_readStorm_1 : decode cX7_readStorm 1 = .ok (.bipush 7, 2) := by decide +kernel
theorem dX7_readStorm_3 : decode cX7_readStorm 3 = .ok (.iload_n 1, 1) := by decide +kernel
theorem dX7_readStorm_4 : decode cX7_readStorm 4 = .ok (.invokevirtual 179, 3) := by decide +kernel
theorem dX7_readStorm_7 : decode cX7_readStorm 7 = .ok (.ifCond .eq 13, 3) := by decide +kernel
theorem dX7_readStorm_10 : decode cX7_readStorm 10 = .ok (.aload_n 0, 1) := by decide +kernel
theorem dX7_readStorm_11 : decode cX7_readStorm 11 = .ok (.iconst 0, 1) := by decide +kernel
theorem dX7_readStorm_12 : decode cX7_readStorm 12 = .ok (.bipush 99, 2) := by decide +kernel
theorem dX7_readStorm_14 : decode cX7_readStorm 14 = .ok (.invokevirtual 167, 3) := by decide +kernel
theorem dX7_readStorm_17 : decode cX7_readStorm 17 = .ok (.ifCond .ne 5, 3) := by decide +kernel
theorem dX7_readStorm_20 : decode cX7_readStorm 20 = .ok (.iconst 0, 1) := by decide +kernel
theorem dX7_readStorm_21 : decode cX7_readStorm 21 = .ok (.ireturn, 1) := by decide +kernel
theorem dX7_readStorm_22 : decode cX7_readStorm 22 = .ok (.aload_n 0, 1) := by decide +kernel
theorem dX7_readStorm_23 : decode cX7_readStorm 23 = .ok (.getfield 76, 3) := by decide +kernel
theorem dX7_readStorm_26 : decode cX7_readStorm 26 = .ok (.aload_n 0, 1) := by decide +kernel
theorem dX7_readStorm_27 : decode cX7_readStorm 27 = .ok (.getfield 41, 3) := by decide +kernel
theorem dX7_readStorm_30 : decode cX7_readStorm 30 = .ok (.putfield 238, 3) := by decide +kernel
theorem dX7_readStorm_33 : decode cX7_readStorm 33 = .ok (.aload_n 0, 1) := by decide +kernel
theorem dX7_readStorm_34 : decode cX7_readStorm 34 = .ok (.iconst 1, 1) := by decide +kernel
theorem dX7_readStorm_35 : decode cX7_readStorm 35 = .ok (.bipush 99, 2) := by decide +kernel
theorem dX7_readStorm_37 : decode cX7_readStorm 37 = .ok (.invokevirtual 167, 3) := by decide +kernel
theorem dX7_readStorm_40 : decode cX7_readStorm 40 = .ok (.ifCond .ne 5, 3) := by decide +kernel
theorem dX7_readStorm_43 : decode cX7_readStorm 43 = .ok (.iconst 0, 1) := by decide +kernel
theorem dX7_readStorm_44 : decode cX7_readStorm 44 = .ok (.ireturn, 1) := by decide +kernel
theorem dX7_readStorm_45 : decode cX7_readStorm 45 = .ok (.aload_n 0, 1) := by decide +kernel
theorem dX7_readStorm_46 : decode cX7_readStorm 46 = .ok (.getfield 76, 3) := by decide +kernel
theorem dX7_readStorm_49 : decode cX7_readStorm 49 = .ok (.aload_n 0, 1) := by decide +kernel
theorem dX7_readStorm_50 : decode cX7_readStorm 50 = .ok (.getfield 41, 3) := by decide +kernel
theorem dX7_readStorm_53 : decode cX7_readStorm 53 = .ok (.putfield 241, 3) := by decide +kernel
theorem dX7_readStorm_56 : decode cX7_readStorm 56 = .ok (.iconst 1, 1) := by decide +kernel
theorem dX7_readStorm_57 : decode cX7_readStorm 57 = .ok (.ireturn, 1) := by decide +kernel
noncomputable def b_X7_readStorm_0 (rec : Rk) (n : Nat) (x1 : Int) (h : Hp) : Option (Int × Hp) :=
  bd (f_X7_tellOnce n 7 x1 h) fun v1 h2 =>
  if v1 = 0 then (
    some (0, h2)
  ) else (
    bd (f_X7_readNumber n 0 99 h2) fun v3 h4 =>
    if v3 = 0 then (
      some (0, h4)
    ) else (
      rf (gR h4 7 0 1) 0 fun j5 =>
      lt (sI h4 0 j5 11 (gI h4 7 0 11)) fun h6 =>
      bd (f_X7_readNumber n 1 99 h6) fun v7 h8 =>
      if v7 = 0 then (
        some (0, h8)
      ) else (
        rf (gR h8 7 0 1) 0 fun j9 =>
        lt (sI h8 0 j9 12 (gI h8 7 0 11)) fun h10 =>
        some (1, h10)
      )
    )
  )
noncomputable def g_X7_readStorm (n : Nat) : Rk := Nat.rec (motive := fun _ => Rk) (fun _ _ _ => none) (fun n rec k l h => if k = 0 then b_X7_readStorm_0 rec n (l.getD 0 0) h else none) n
noncomputable def f_X7_readStorm (n : Nat) (x1 : Int) (h : Hp) : Option (Int × Hp) := g_X7_readStorm n 0 [x1] h
set_option maxHeartbeats 4000000 in
set_option maxRecDepth 100000 in
theorem t_X7_readStorm_0 (E : xE) (d : Nat) (rec : Rk) (n : Nat) (r : Int × Hp) (x1 : Int) (h : Hp) (hL : Lay h) (hF : b_X7_readStorm_0 rec n x1 h = some r) : X E mX7_readStorm (d + 3) (0, 0) (0, 0) 0 [some (xr 7 0), some (xi x1)] [] h (PoI r) := by
  unfold b_X7_readStorm_0 at hF
  refine x_aload_n (i := 0) (b := 1) dX7_readStorm_0 rfl rfl rfl ?_
  refine x_bipush (n := 7) (b := 3) dX7_readStorm_1 (by decide) rfl ?_
  refine x_iload_n (i := 1) (b := 4) dX7_readStorm_3 rfl rfl rfl ?_
  obtain ⟨v1, h2, hq, hF⟩ := bd_e hF
  refine x_callV (as := [xi 7, xi x1]) (rest := []) (b := 7) (c_X7_tellOnce d n 7 x1 h _ hL hq) dX7_readStorm_4 cw_X7_179 ⟨_, _, rfl, Nat.le_of_ble_eq_true rfl⟩ rfl rfl (Nat.le_of_ble_eq_true rfl) ⟨Nat.le_refl _, Nat.le_refl _⟩ rfl (fun rv hh hp _ => ?_)
  obtain ⟨rfl, rfl, hL⟩ := hp
  refine x_if_eq (tgt := 20) (b := 10) dX7_readStorm_7 (by decide) rfl (fun hc => ?_) (fun hc => ?_)
  · replace hF := br_T hc hF
    refine x_iconst (n := 0) (b := 21) dX7_readStorm_20 (by decide) rfl ?_
    refine x_zreturn dX7_readStorm_21 rfl ⟨Nat.le_refl _, Nat.le_refl _⟩ (by decide) ?_
    cases hF
    exact ⟨rfl, rfl, hL⟩
  · replace hF := br_F hc hF
    refine x_aload_n (i := 0) (b := 11) dX7_readStorm_10 rfl rfl rfl ?_
    refine x_iconst (n := 0) (b := 12) dX7_readStorm_11 (by decide) rfl ?_
    refine x_bipush (n := 99) (b := 14) dX7_readStorm_12 (by decide) rfl ?_
    obtain ⟨v3, h4, hq, hF⟩ := bd_e hF
    refine x_callV (as := [xi 0, xi 99]) (rest := []) (b := 17) (c_X7_readNumber d n 0 99 h2 _ hL hq) dX7_readStorm_14 cw_X7_167 ⟨_, _, rfl, Nat.le_of_ble_eq_true rfl⟩ rfl rfl (Nat.le_of_ble_eq_true rfl) ⟨Nat.le_refl _, Nat.le_refl _⟩ rfl (fun rv hh hp _ => ?_)
    obtain ⟨rfl, rfl, hL⟩ := hp
    refine x_if_ne (tgt := 22) (b := 20) dX7_readStorm_17 (by decide) rfl (fun hc => ?_) (fun hc => ?_)
    · replace hF := br_F hc hF
      refine x_aload_n (i := 0) (b := 23) dX7_readStorm_22 rfl rfl rfl ?_
      obtain ⟨j5, e_j5, hF⟩ := rf_e hF
      refine x_getR (v := some (0, j5)) (b := 26) fk_X7_76 dX7_readStorm_23 rfl e_j5 rfl ?_
      refine x_aload_n (i := 0) (b := 27) dX7_readStorm_26 rfl rfl rfl ?_
      refine x_getI (v := gI h4 7 0 11) (b := 30) fk_X7_41 dX7_readStorm_27 (by decide) rfl rfl ?_
      refine x_putI (b := 33) fk_X7_238 dX7_readStorm_30 rfl rfl 11 rfl ?_
      obtain ⟨h6, e_h6, hF⟩ := lt_e hF
      refine x_hp (h2 := h6) e_h6 ?_
      replace hL : Lay h6 := by rw [← e_h6]; exact hL
      refine x_aload_n (i := 0) (b := 34) dX7_readStorm_33 rfl rfl rfl ?_
      refine x_iconst (n := 1) (b := 35) dX7_readStorm_34 (by decide) rfl ?_
      refine x_bipush (n := 99) (b := 37) dX7_readStorm_35 (by decide) rfl ?_
      obtain ⟨v7, h8, hq, hF⟩ := bd_e hF
      refine x_callV (as := [xi 1, xi 99]) (rest := []) (b := 40) (c_X7_readNumber d n 1 99 h6 _ hL hq) dX7_readStorm_37 cw_X7_167 ⟨_, _, rfl, Nat.le_of_ble_eq_true rfl⟩ rfl rfl (Nat.le_of_ble_eq_true rfl) ⟨Nat.le_refl _, Nat.le_refl _⟩ rfl (fun rv hh hp _ => ?_)
      obtain ⟨rfl, rfl, hL⟩ := hp
      refine x_if_ne (tgt := 45) (b := 43) dX7_readStorm_40 (by decide) rfl (fun hc => ?_) (fun hc => ?_)
      · replace hF := br_F hc hF
        refine x_aload_n (i := 0) (b := 46) dX7_readStorm_45 rfl rfl rfl ?_
        obtain ⟨j9, e_j9, hF⟩ := rf_e hF
        refine x_getR (v := some (0, j9)) (b := 49) fk_X7_76 dX7_readStorm_46 rfl e_j9 rfl ?_
        refine x_aload_n (i := 0) (b := 50) dX7_readStorm_49 rfl rfl rfl ?_
        refine x_getI (v := gI h8 7 0 11) (b := 53) fk_X7_41 dX7_readStorm_50 (by decide) rfl rfl ?_
        refine x_putI (b := 56) fk_X7_241 dX7_readStorm_53 rfl rfl 12 rfl ?_
        obtain ⟨h10, e_h10, hF⟩ := lt_e hF
        refine x_hp (h2 := h10) e_h10 ?_
        replace hL : Lay h10 := by rw [← e_h10]; exact hL
        refine x_iconst (n := 1) (b := 57) dX7_readStorm_56 (by decide) rfl ?_
        refine x_zreturn dX7_readStorm_57 rfl ⟨Nat.le_refl _, Nat.le_refl _⟩ (by decide) ?_
        cases hF
        exact ⟨rfl, rfl, hL⟩
      · replace hF := br_T hc hF
        refine x_iconst (n := 0) (b := 44) dX7_readStorm_43 (by decide) rfl ?_
        refine x_zreturn dX7_readStorm_44 rfl ⟨Nat.le_refl _, Nat.le_refl _⟩ (by decide) ?_
        cases hF
        exact ⟨rfl, rfl, hL⟩
    · replace hF := br_T hc hF
      refine x_iconst (n := 0) (b := 21) dX7_readStorm_20 (by decide) rfl ?_
      refine x_zreturn dX7_readStorm_21 rfl ⟨Nat.le_refl _, Nat.le_refl _⟩ (by decide) ?_
      cases hF
      exact ⟨rfl, rfl, hL⟩
set_option maxHeartbeats 4000000 in
set_option maxRecDepth 100000 in
theorem u_X7_readStorm (E : xE) (d : Nat) (r : Int × Hp) : ∀ n : Nat, (∀ (x1 : Int) (h : Hp), Lay h → g_X7_readStorm n 0 [x1] h = some r → X E mX7_readStorm (d + 3) (0, 0) (0, 0) 0 [some (xr 7 0), some (xi x1)] [] h (PoI r)) := by
  intro n
  induction n with
  | zero => exact fun _ _ _ hF => no_e (r := r) hF
  | succ n ih => exact fun x1 h hL hF => t_X7_readStorm_0 E d (g_X7_readStorm n) n r  x1 h hL hF
theorem c_X7_readStorm (d n : Nat) (x1 : Int) (h : Hp) (r : Int × Hp) (hL : Lay h) (hF : f_X7_readStorm n x1 h = some r) : Sp mX7_readStorm (d + 3) (0, 0) [xr 7 0, xi x1] h (PoI r) :=
  sp_of (by decide) rfl (Nat.le_of_ble_eq_true rfl) (ls := [some (xr 7 0), some (xi x1)]) rfl (fun E _ => (u_X7_readStorm E d r n) x1 h hL hF)
theorem dX7_readWind_0 : decode cX7_readWind 0 = .ok (.aload_n 0, 1) := by decide +kernel
theorem dX7_readWind_1 : decode cX7_readWind 1 = .ok (.iconst 5, 1) := by decide +kernel
theorem dX7_readWind_2 : decode cX7_readWind 2 = .ok (.iload_n 1, 1) := by decide +kernel
theorem dX7_readWind_3 : decode cX7_readWind 3 = .ok (.invokevirtual 179, 3) := by decide +kernel
theorem dX7_readWind_6 : decode cX7_readWind 6 = .ok (.ifCond .ne 5, 3) := by decide +kernel
theorem dX7_readWind_9 : decode cX7_readWind 9 = .ok (.iconst 0, 1) := by decide +kernel
theorem dX7_readWind_10 : decode cX7_readWind 10 = .ok (.ireturn, 1) := by decide +kernel
theorem dX7_readWind_11 : decode cX7_readWind 11 = .ok (.iconst 0, 1) := by decide +kernel
theorem dX7_readWind_12 : decode cX7_readWind 12 = .ok (.istore_n 2, 1) := by decide +kernel
theorem dX7_readWind_13 : decode cX7_readWind 13 = .ok (.iload_n 2, 1) := by decide +kernel
theorem dX7_readWind_14 : decode cX7_readWind 14 = .ok (.bipush 8, 2) := by decide +kernel
theorem dX7_readWind_16 : decode cX7_readWind 16 = .ok (.if_icmp .gt 71, 3) := by decide +kernel
theorem dX7_readWind_19 : decode cX7_readWind 19 = .ok (.iload_n 2, 1) := by decide +kernel
theorem dX7_readWind_20 : decode cX7_readWind 20 = .ok (.ifCond .eq 11, 3) := by decide +kernel
theorem dX7_readWind_23 : decode cX7_readWind 23 = .ok (.aload_n 0, 1) := by decide +kernel
theorem dX7_readWind_24 : decode cX7_readWind 24 = .ok (.getfield 26, 3) := by decide +kernel
theorem dX7_readWind_27 : decode cX7_readWind 27 = .ok (.iconst 3, 1) := by decide +kernel
theorem dX7_readWind_28 : decode cX7_readWind 28 = .ok (.if_icmp .ne 59, 3) := by decide +kernel
theorem dX7_readWind_31 : decode cX7_readWind 31 = .ok (.iload_n 2, 1) := by decide +kernel
theorem dX7_readWind_32 : decode cX7_readWind 32 = .ok (.bipush 8, 2) := by decide +kernel
theorem dX7_readWind_34 : decode cX7_readWind 34 = .ok (.if_icmp .ne 13, 3) := by decide +kernel
theorem dX7_readWind_37 : decode cX7_readWind 37 = .ok (.aload_n 0, 1) := by decide +kernel
theorem dX7_readWind_38 : decode cX7_readWind 38 = .ok (.iconst 2, 1) := by decide +kernel
theorem dX7_readWind_39 : decode cX7_readWind 39 = .ok (.aload_n 0, 1) := by decide +kernel
theorem dX7_readWind_40 : decode cX7_readWind 40 = .ok (.getfield 29, 3) := by decide +kernel
theorem dX7_readWind_43 : decode cX7_readWind 43 = .ok (.invokevirtual 149, 3) := by decide +kernel
theorem dX7_readWind_46 : decode cX7_readWind 46 = .ok (.ireturn, 1) := by decide +kernel
theorem dX7_readWind_47 : decode cX7_readWind 47 = .ok (.aload_n 0, 1) := by decide +kernel
theorem dX7_readWind_48 : decode cX7_readWind 48 = .ok (.iconst 0, 1) := by decide +kernel
theorem dX7_readWind_49 : decode cX7_readWind 49 = .ok (.iconst 3, 1) := by decide +kernel
theorem dX7_readWind_50 : decode cX7_readWind 50 = .ok (.invokevirtual 167, 3) := by decide +kernel
theorem dX7_readWind_53 : decode cX7_readWind 53 = .ok (.ifCond .ne 5, 3) := by decide +kernel
theorem dX7_readWind_56 : decode cX7_readWind 56 = .ok (.iconst 0, 1) := by decide +kernel
theorem dX7_readWind_57 : decode cX7_readWind 57 = .ok (.ireturn, 1) := by decide +kernel
theorem dX7_readWind_58 : decode cX7_readWind 58 = .ok (.aload_n 0, 1) := by decide +kernel
theorem dX7_readWind_59 : decode cX7_readWind 59 = .ok (.getfield 76, 3) := by decide +kernel
theorem dX7_readWind_62 : decode cX7_readWind 62 = .ok (.getfield 220, 3) := by decide +kernel
theorem dX7_readWind_65 : decode cX7_readWind 65 = .ok (.iload_n 2, 1) := by decide +kernel
theorem dX7_readWind_66 : decode cX7_readWind 66 = .ok (.aload_n 0, 1) := by decide +kernel
theorem dX7_readWind_67 : decode cX7_readWind 67 = .ok (.getfield 41, 3) := by decide +kernel
theorem dX7_readWind_70 : decode cX7_readWind 70 = .ok (.iastore, 1) := by decide +kernel
theorem dX7_readWind_71 : decode cX7_readWind 71 = .ok (.aload_n 0, 1) := by decide +kernel
theorem dX7_readWind_72 : decode cX7_readWind 72 = .ok (.getfield 76, 3) := by decide +kernel
theorem dX7_readWind_75 : decode cX7_readWind 75 = .ok (.iload_n 2, 1) := by decide +kernel
theorem dX7_readWind_76 : decode cX7_readWind 76 = .ok (.iconst 1, 1) := by decide +kernel
theorem dX7_readWind_77 : decode cX7_readWind 77 = .ok (.iadd, 1) := by decide +kernel
theorem dX7_readWind_78 : decode cX7_readWind 78 = .ok (.putfield 223, 3) := by decide +kernel
theorem dX7_readWind_81 : decode cX7_readWind 81 = .ok (.iinc 2 1, 3) := by decide +kernel
theorem dX7_readWind_84 : decode cX7_readWind 84 = .ok (.goto (-71), 3) := by decide +kernel
theorem dX7_readWind_87 : decode cX7_readWind 87 = .ok (.iconst 1, 1) := by decide +kernel
theorem dX7_readWind_88 : decode cX7_readWind 88 = .ok (.ireturn, 1) := by decide +kernel
noncomputable def b_X7_readWind_0 (rec : Rk) (n : Nat) (x1 : Int) (h : Hp) : Option (Int × Hp) :=
  bd (f_X7_tellOnce n 5 x1 h) fun v1 h2 =>
  if v1 = 0 then (
    some (0, h2)
  ) else (
    rec 1 [0] h2
  )
noncomputable def b_X7_readWind_1 (rec : Rk) (n : Nat) (x2 : Int) (h : Hp) : Option (Int × Hp) :=
  if 8 < x2 then (
    some (1, h)
  ) else (
    if x2 = 0 then (
      rec 2 [x2] h
    ) else (
      if (gI h 7 0 6) = 3 then (
        rec 2 [x2] h
      ) else (
        some (1, h)
      )
    )
  )
noncomputable def b_X7_readWind_2 (rec : Rk) (n : Nat) (x2 : Int) (h : Hp) : Option (Int × Hp) :=
  if x2 = 8 then (
    bd (f_X7_wrong n 2 (gI h 7 0 7) h) fun v1 h2 =>
    ck (0 ≤ v1 ∧ v1 < 2) <|
    some (v1, h2)
  ) else (
    bd (f_X7_readNumber n 0 3 h) fun v3 h4 =>
    if v3 = 0 then (
      some (0, h4)
    ) else (
      rf (gR h4 7 0 1) 0 fun j5 =>
      ck (0 ≤ x2 ∧ x2 < 8) <|
      lt (sI h4 21 j5 x2 (gI h4 7 0 11)) fun h6 =>
      rf (gR h6 7 0 1) 0 fun j7 =>
      ck (-2147483648 ≤ x2 + 1 ∧ x2 + 1 < 2147483648) <|
      lt (sI h6 0 j7 6 (x2 + 1)) fun h8 =>
      ck (-2147483648 ≤ x2 + 1 ∧ x2 + 1 < 2147483648) <|
      rec 1 [x2 + 1] h8
    )
  )
noncomputable def g_X7_readWind (n : Nat) : Rk := Nat.rec (motive := fun _ => Rk) (fun _ _ _ => none) (fun n rec k l h => if k = 0 then b_X7_readWind_0 rec n (l.getD 0 0) h else if k = 1 then b_X7_readWind_1 rec n (l.getD 0 0) h else if k = 2 then b_X7_readWind_2 rec n (l.getD 0 0) h else none) n
noncomputable def f_X7_readWind (n : Nat) (x1 : Int) (h : Hp) : Option (Int × Hp) := g_X7_readWind n 0 [x1] h
set_option maxHeartbeats 4000000 in
set_option maxRecDepth 100000 in
theorem t_X7_readWind_0 (E : xE) (d : Nat) (rec : Rk) (n : Nat) (r : Int × Hp) (hr_13 : ∀ (x2 : Int) (h : Hp), Lay h → rec 1 [x2] h = some r → X E mX7_readWind (d + 3) (0, 0) (0, 0) 13 [some (xr 7 0), none, some (xi x2)] [] h (PoI r)) (x1 : Int) (h : Hp) (hL : Lay h) (hF : b_X7_readWind_0 rec n x1 h = some r) : X E mX7_readWind (d + 3) (0, 0) (0, 0) 0 [some (xr 7 0), some (xi x1), none] [] h (PoI r) := by
  unfold b_X7_readWind_0 at hF
  refine x_aload_n (i := 0) (b := 1) dX7_readWind_0 rfl rfl rfl ?_
  refine x_iconst (n := 5) (b := 2) dX7_readWind_1 (by decide) rfl ?_
  refine x_iload_n (i := 1) (b := 3) dX7_readWind_2 rfl rfl rfl ?_
  obtain ⟨v1, h2, hq, hF⟩ := bd_e hF
  refine x_callV (as := [xi 5, xi x1]) (rest := []) (b := 6) (c_X7_tellOnce d n 5 x1 h _ hL hq) dX7_readWind_3 cw_X7_179 ⟨_, _, rfl, Nat.le_of_ble_eq_true rfl⟩ rfl rfl (Nat.le_of_ble_eq_true rfl) ⟨Nat.le_refl _, Nat.le_refl _⟩ rfl (fun rv hh hp _ => ?_)
  obtain ⟨rfl, rfl, hL⟩ := hp
  refine x_if_ne (tgt := 11) (b := 9) dX7_readWind_6 (by decide) rfl (fun hc => ?_) (fun hc => ?_)
  · replace hF := br_F hc hF
    refine x_iconst (n := 0) (b := 12) dX7_readWind_11 (by decide) rfl ?_
    refine x_istore_n (i := 2) (b := 13) (ls2 := [some (xr 7 0), some (xi x1), some (xi 0)]) dX7_readWind_12 rfl (Nat.le_of_ble_eq_true rfl) rfl rfl ?_
    exact x_dp (ls2 := [some (xr 7 0), none, some (xi 0)]) ⟨rfl, rfl, trivial⟩ (hr_13 0 h2 hL hF)
  · replace hF := br_T hc hF
    refine x_iconst (n := 0) (b := 10) dX7_readWind_9 (by decide) rfl ?_
    refine x_zreturn dX7_readWind_10 rfl ⟨Nat.le_refl _, Nat.le_refl _⟩ (by decide) ?_
    cases hF
    exact ⟨rfl, rfl, hL⟩
set_option maxHeartbeats 4000000 in
set_option maxRecDepth 100000 in
theorem t_X7_readWind_1 (E : xE) (d : Nat) (rec : Rk) (n : Nat) (r : Int × Hp) (hr_31 : ∀ (x2 : Int) (h : Hp), Lay h → rec 2 [x2] h = some r → X E mX7_readWind (d + 3) (0, 0) (0, 0) 31 [some (xr 7 0), none, some (xi x2)] [] h (PoI r)) (x2 : Int) (h : Hp) (hL : Lay h) (hF : b_X7_readWind_1 rec n x2 h = some r) : X E mX7_readWind (d + 3) (0, 0) (0, 0) 13 [some (xr 7 0), none, some (xi x2)] [] h (PoI r) := by
  unfold b_X7_readWind_1 at hF
  refine x_iload_n (i := 2) (b := 14) dX7_readWind_13 rfl rfl rfl ?_
  refine x_bipush (n := 8) (b := 16) dX7_readWind_14 (by decide) rfl ?_
  refine x_icmp_gt (tgt := 87) (b := 19) dX7_readWind_16 (by decide) rfl (fun hc => ?_) (fun hc => ?_)
  · replace hF := br_T hc hF
    refine x_iconst (n := 1) (b := 88) dX7_readWind_87 (by decide) rfl ?_
    refine x_zreturn dX7_readWind_88 rfl ⟨Nat.le_refl _, Nat.le_refl _⟩ (by decide) ?_
    cases hF
    exact ⟨rfl, rfl, hL⟩
  · replace hF := br_F hc hF
    refine x_iload_n (i := 2) (b := 20) dX7_readWind_19 rfl rfl rfl ?_
    refine x_if_eq (tgt := 31) (b := 23) dX7_readWind_20 (by decide) rfl (fun hc => ?_) (fun hc => ?_)
    · replace hF := br_T hc hF
      exact x_dp (ls2 := [some (xr 7 0), none, some (xi x2)]) ⟨rfl, rfl, trivial⟩ (hr_31 x2 h hL hF)
    · replace hF := br_F hc hF
      refine x_aload_n (i := 0) (b := 24) dX7_readWind_23 rfl rfl rfl ?_
      refine x_getI (v := gI h 7 0 6) (b := 27) fk_X7_26 dX7_readWind_24 (by decide) rfl rfl ?_
      refine x_iconst (n := 3) (b := 28) dX7_readWind_27 (by decide) rfl ?_
      refine x_icmp_ne (tgt := 87) (b := 31) dX7_readWind_28 (by decide) rfl (fun hc => ?_) (fun hc => ?_)
      · replace hF := br_F hc hF
        refine x_iconst (n := 1) (b := 88) dX7_readWind_87 (by decide) rfl ?_
        refine x_zreturn dX7_readWind_88 rfl ⟨Nat.le_refl _, Nat.le_refl _⟩ (by decide) ?_
        cases hF
        exact ⟨rfl, rfl, hL⟩
      · replace hF := br_T hc hF
        exact x_dp (ls2 := [some (xr 7 0), none, some (xi x2)]) ⟨rfl, rfl, trivial⟩ (hr_31 x2 h hL hF)
set_option maxHeartbeats 4000000 in
set_option maxRecDepth 100000 in
theorem t_X7_readWind_2 (E : xE) (d : Nat) (rec : Rk) (n : Nat) (r : Int × Hp) (hr_13 : ∀ (x2 : Int) (h : Hp), Lay h → rec 1 [x2] h = some r → X E mX7_readWind (d + 3) (0, 0) (0, 0) 13 [some (xr 7 0), none, some (xi x2)] [] h (PoI r)) (x2 : Int) (h : Hp) (hL : Lay h) (hF : b_X7_readWind_2 rec n x2 h = some r) : X E mX7_readWind (d + 3) (0, 0) (0, 0) 31 [some (xr 7 0), none, some (xi x2)] [] h (PoI r) := by
  unfold b_X7_readWind_2 at hF
  refine x_iload_n (i := 2) (b := 32) dX7_readWind_31 rfl rfl rfl ?_
  refine x_bipush (n := 8) (b := 34) dX7_readWind_32 (by decide) rfl ?_
  refine x_icmp_ne (tgt := 47) (b := 37) dX7_readWind_34 (by decide) rfl (fun hc => ?_) (fun hc => ?_)
  · replace hF := br_F hc hF
    refine x_aload_n (i := 0) (b := 48) dX7_readWind_47 rfl rfl rfl ?_
    refine x_iconst (n := 0) (b := 49) dX7_readWind_48 (by decide) rfl ?_
    refine x_iconst (n := 3) (b := 50) dX7_readWind_49 (by decide) rfl ?_
    obtain ⟨v3, h4, hq, hF⟩ := bd_e hF
    refine x_callV (as := [xi 0, xi 3]) (rest := []) (b := 53) (c_X7_readNumber d n 0 3 h _ hL hq) dX7_readWind_50 cw_X7_167 ⟨_, _, rfl, Nat.le_of_ble_eq_true rfl⟩ rfl rfl (Nat.le_of_ble_eq_true rfl) ⟨Nat.le_refl _, Nat.le_refl _⟩ rfl (fun rv hh hp _ => ?_)
    obtain ⟨rfl, rfl, hL⟩ := hp
    refine x_if_ne (tgt := 58) (b := 56) dX7_readWind_53 (by decide) rfl (fun hc => ?_) (fun hc => ?_)
    · replace hF := br_F hc hF
      refine x_aload_n (i := 0) (b := 59) dX7_readWind_58 rfl rfl rfl ?_
      obtain ⟨j5, e_j5, hF⟩ := rf_e hF
      refine x_getR (v := some (0, j5)) (b := 62) fk_X7_76 dX7_readWind_59 rfl e_j5 rfl ?_
      refine x_getL (j := j5) (t := (21, 0, true)) (b := 65) fk_X7_220 dX7_readWind_62 rfl hL rfl rfl rfl ?_
      refine x_iload_n (i := 2) (b := 66) dX7_readWind_65 rfl rfl rfl ?_
      refine x_aload_n (i := 0) (b := 67) dX7_readWind_66 rfl rfl rfl ?_
      refine x_getI (v := gI h4 7 0 11) (b := 70) fk_X7_41 dX7_readWind_67 (by decide) rfl rfl ?_
      obtain ⟨hs, hF⟩ := ck_e hF
      have hs1 := hs
      refine x_iast (b := 71) ak_21 dX7_readWind_70 hs1 rfl ?_
      obtain ⟨h6, e_h6, hF⟩ := lt_e hF
      refine x_hp (h2 := h6) e_h6 ?_
      replace hL : Lay h6 := by rw [← e_h6]; exact hL
      refine x_aload_n (i := 0) (b := 72) dX7_readWind_71 rfl rfl rfl ?_
      obtain ⟨j7, e_j7, hF⟩ := rf_e hF
      refine x_getR (v := some (0, j7)) (b := 75) fk_X7_76 dX7_readWind_72 rfl e_j7 rfl ?_
      refine x_iload_n (i := 2) (b := 76) dX7_readWind_75 rfl rfl rfl ?_
      refine x_iconst (n := 1) (b := 77) dX7_readWind_76 (by decide) rfl ?_
      obtain ⟨hs, hF⟩ := ck_e hF
      refine x_iadd (b := 78) dX7_readWind_77 hs rfl ?_
      refine x_putI (b := 81) fk_X7_223 dX7_readWind_78 rfl rfl 6 rfl ?_
      obtain ⟨h8, e_h8, hF⟩ := lt_e hF
      refine x_hp (h2 := h8) e_h8 ?_
      replace hL : Lay h8 := by rw [← e_h8]; exact hL
      obtain ⟨hs, hF⟩ := ck_e hF
      refine x_iinc (i := 2) (b := 84) (ls2 := [some (xr 7 0), none, some (xi (x2 + 1))]) dX7_readWind_81 rfl (Nat.le_of_ble_eq_true rfl) hs rfl rfl ?_
      refine x_goto (tgt := 13) dX7_readWind_84 (by decide) ?_
      exact x_dp (ls2 := [some (xr 7 0), none, some (xi (x2 + 1))]) ⟨rfl, rfl, trivial⟩ (hr_13 (x2 + 1) h8 hL hF)
    · replace hF := br_T hc hF
      refine x_iconst (n := 0) (b := 57) dX7_readWind_56 (by decide) rfl ?_
      refine x_zreturn dX7_readWind_57 rfl ⟨Nat.le_refl _, Nat.le_refl _⟩ (by decide) ?_
      cases hF
      exact ⟨rfl, rfl, hL⟩
  · replace hF := br_T hc hF
    refine x_aload_n (i := 0) (b := 38) dX7_readWind_37 rfl rfl rfl ?_
    refine x_iconst (n := 2) (b := 39) dX7_readWind_38 (by decide) rfl ?_
    refine x_aload_n (i := 0) (b := 40) dX7_readWind_39 rfl rfl rfl ?_
    refine x_getI (v := gI h 7 0 7) (b := 43) fk_X7_29 dX7_readWind_40 (by decide) rfl rfl ?_
    obtain ⟨v1, h2, hq, hF⟩ := bd_e hF
    refine x_callV (as := [xi 2, xi (gI h 7 0 7)]) (rest := []) (b := 46) (c_X7_wrong (d + 1) n 2 (gI h 7 0 7) h _ hL hq) dX7_readWind_43 cw_X7_149 ⟨_, _, rfl, Nat.le_of_ble_eq_true rfl⟩ rfl rfl (Nat.le_of_ble_eq_true rfl) ⟨Nat.le_refl _, Nat.le_refl _⟩ rfl (fun rv hh hp _ => ?_)
    obtain ⟨rfl, rfl, hL⟩ := hp
    obtain ⟨hs, hF⟩ := ck_e hF
    refine x_zreturn dX7_readWind_46 rfl ⟨Nat.le_refl _, Nat.le_refl _⟩ hs ?_
    cases hF
    exact ⟨rfl, rfl, hL⟩
set_option maxHeartbeats 4000000 in
set_option maxRecDepth 100000 in
theorem u_X7_readWind (E : xE) (d : Nat) (r : Int × Hp) : ∀ n : Nat, (∀ (x1 : Int) (h : Hp), Lay h → g_X7_readWind n 0 [x1] h = some r → X E mX7_readWind (d + 3) (0, 0) (0, 0) 0 [some (xr 7 0), some (xi x1), none] [] h (PoI r)) ∧ (∀ (x2 : Int) (h : Hp), Lay h → g_X7_readWind n 1 [x2] h = some r → X E mX7_readWind (d + 3) (0, 0) (0, 0) 13 [some (xr 7 0), none, some (xi x2)] [] h (PoI r)) ∧ (∀ (x2 : Int) (h : Hp), Lay h → g_X7_readWind n 2 [x2] h = some r → X E mX7_readWind (d + 3) (0, 0) (0, 0) 31 [some (xr 7 0), none, some (xi x2)] [] h (PoI r)) := by
  intro n
  induction n with
  | zero => exact ⟨fun _ _ _ hF => no_e (r := r) hF, fun _ _ _ hF => no_e (r := r) hF, fun _ _ _ hF => no_e (r := r) hF⟩
  | succ n ih => exact ⟨fun x1 h hL hF => t_X7_readWind_0 E d (g_X7_readWind n) n r ih.2.1 x1 h hL hF, fun x2 h hL hF => t_X7_readWind_1 E d (g_X7_readWind n) n r ih.2.2 x2 h hL hF, fun x2 h hL hF => t_X7_readWind_2 E d (g_X7_readWind n) n r ih.2.1 x2 h hL hF⟩
theorem c_X7_readWind (d n : Nat) (x1 : Int) (h : Hp) (r : Int × Hp) (hL : Lay h) (hF : f_X7_readWind n x1 h = some r) : Sp mX7_readWind (d + 3) (0, 0) [xr 7 0, xi x1] h (PoI r) :=
  sp_of (by decide) rfl (Nat.le_of_ble_eq_true rfl) (ls := [some (xr 7 0), some (xi x1), none]) rfl (fun E _ => (u_X7_readWind E d r n).1 x1 h hL hF)
theorem dX9_between_0 : decode cX9_between 0 = .ok (.aload_n 0, 1) := by decide +kernel
theorem dX9_between_1 : decode cX9_between 1 = .ok (.iload_n 1, 1) := by decide +kernel
theorem dX9_between_2 : decode cX9_between 2 = .ok (.iconst 4, 1) := by decide +kernel
theorem dX9_between_3 : decode cX9_between 3 = .ok (.invokevirtual 57, 3) := by decide +kernel
theorem dX9_between_6 : decode cX9_between 6 = .ok (.iload_n 2, 1) := by decide +kernel
theorem dX9_between_7 : decode cX9_between 7 = .ok (.ifCond .lt 22, 3) := by decide +kernel
theorem dX9_between_10 : decode cX9_between 10 = .ok (.iload_n 2, 1) := by decide +kernel
theorem dX9_between_11 : decode cX9_between 11 = .ok (.bipush 64, 2) := by decide +kernel
theorem dX9_between_13 : decode cX9_between 13 = .ok (.if_icmp .ge 16, 3) := by decide +kernel
theorem dX9_between_16 : decode cX9_between 16 = .ok (.aload_n 0, 1) := by decide +kernel
theorem dX9_between_17 : decode cX9_between 17 = .ok (.getfield 47, 3) := by decide +kernel
theorem dX9_between_20 : decode cX9_between 20 = .ok (.sipush 256, 3) := by decide +kernel
theorem dX9_between_23 : decode cX9_between 23 = .ok (.iload_n 2, 1) := by decide +kernel
theorem dX9_between_24 : decode cX9_between 24 = .ok (.iadd, 1) := by decide +kernel
theorem dX9_between_25 : decode cX9_between 25 = .ok (.iaload, 1) := by decide +kernel
theorem dX9_between_26 : decode cX9_between 26 = .ok (.goto 5, 3) := by decide +kernel
theorem dX9_between_29 : decode cX9_between 29 = .ok (.bipush 99, 2) := by decide +kernel
theorem dX9_between_31 : decode cX9_between 31 = .ok (.ireturn, 1) := by decide +kernel
noncomputable def b_X9_between_0 (rec : Rk) (n : Nat) (x0 x1 x2 : Int) (h : Hp) : Option (Int × Hp) :=
  bd (f_X9_spread n x0 x1 4 h) fun v1 h2 =>
  if x2 < 0 then (
    some (99, h2)
  ) else (
    if 64 ≤ x2 then (
      some (99, h2)
    ) else (
      ck (-2147483648 ≤ 256 + x2 ∧ 256 + x2 < 2147483648) <|
      ck (0 ≤ (256 + x2) ∧ (256 + x2) < 320) <|
      some (gI h2 55 x0 (256 + x2), h2)
    )
  )
noncomputable def g_X9_between (n : Nat) : Rk := Nat.rec (motive := fun _ => Rk) (fun _ _ _ => none) (fun n rec k l h => if k = 0 then b_X9_between_0 rec n (l.getD 0 0) (l.getD 1 0) (l.getD 2 0) h else none) n
noncomputable def f_X9_between (n : Nat) (x0 x1 x2 : Int) (h : Hp) : Option (Int × Hp) := g_X9_between n 0 [x0, x1, x2] h
set_option maxHeartbeats 4000000 in
set_option maxRecDepth 100000 in
theorem t_X9_between_0 (E : xE) (d : Nat) (rec : Rk) (n : Nat) (r : Int × Hp) (x0 x1 x2 : Int) (h : Hp) (hL : Lay h) (hF : b_X9_between_0 rec n x0 x1 x2 h = some r) : X E mX9_between (d + 4) (0, 0) (0, 0) 0 [some (xr 9 x0), some (xi x1), some (xi x2)] [] h (PoI r) := by
  unfold b_X9_between_0 at hF
  refine x_aload_n (i := 0) (b := 1) dX9_between_0 rfl rfl rfl ?_
  refine x_iload_n (i := 1) (b := 2) dX9_between_1 rfl rfl rfl ?_
  refine x_iconst (n := 4) (b := 3) dX9_between_2 (by decide) rfl ?_
  obtain ⟨v1, h2, hq, hF⟩ := bd_e hF
  refine x_callV (as := [xi x1, xi 4]) (rest := []) (b := 6) (c_X9_spread d n x0 x1 4 h _ hL hq) dX9_between_3 cw_X9_57 ⟨_, _, rfl, Nat.le_of_ble_eq_true rfl⟩ rfl rfl (Nat.le_of_ble_eq_true rfl) ⟨Nat.le_refl _, Nat.le_refl _⟩ rfl (fun rv hh hp _ => ?_)
  obtain ⟨rfl, rfl, hL⟩ := hp
  refine x_iload_n (i := 2) (b := 7) dX9_between_6 rfl rfl rfl ?_
  refine x_if_lt (tgt := 29) (b := 10) dX9_between_7 (by decide) rfl (fun hc => ?_) (fun hc => ?_)
  · replace hF := br_T hc hF
    refine x_bipush (n := 99) (b := 31) dX9_between_29 (by decide) rfl ?_
    refine x_ireturn dX9_between_31 rfl ⟨Nat.le_refl _, Nat.le_refl _⟩ ?_
    cases hF
    exact ⟨rfl, rfl, hL⟩
  · replace hF := br_F hc hF
    refine x_iload_n (i := 2) (b := 11) dX9_between_10 rfl rfl rfl ?_
    refine x_bipush (n := 64) (b := 13) dX9_between_11 (by decide) rfl ?_
    refine x_icmp_ge (tgt := 29) (b := 16) dX9_between_13 (by decide) rfl (fun hc => ?_) (fun hc => ?_)
    · replace hF := br_T hc hF
      refine x_bipush (n := 99) (b := 31) dX9_between_29 (by decide) rfl ?_
      refine x_ireturn dX9_between_31 rfl ⟨Nat.le_refl _, Nat.le_refl _⟩ ?_
      cases hF
      exact ⟨rfl, rfl, hL⟩
    · replace hF := br_F hc hF
      refine x_aload_n (i := 0) (b := 17) dX9_between_16 rfl rfl rfl ?_
      refine x_getL (j := x0) (t := (55, 0, true)) (b := 20) fk_X9_47 dX9_between_17 rfl hL rfl rfl rfl ?_
      refine x_sipush (n := 256) (b := 23) dX9_between_20 (by decide) rfl ?_
      refine x_iload_n (i := 2) (b := 24) dX9_between_23 rfl rfl rfl ?_
      obtain ⟨hs, hF⟩ := ck_e hF
      refine x_iadd (b := 25) dX9_between_24 hs rfl ?_
      obtain ⟨hs, hF⟩ := ck_e hF
      refine x_iald (v := gI h2 55 x0 (256 + x2)) (b := 26) ak_55 dX9_between_25 hs rfl rfl ?_
      refine x_goto (tgt := 31) dX9_between_26 (by decide) ?_
      refine x_ireturn dX9_between_31 rfl ⟨Nat.le_refl _, Nat.le_refl _⟩ ?_
      cases hF
      exact ⟨rfl, rfl, hL⟩
set_option maxHeartbeats 4000000 in
set_option maxRecDepth 100000 in
theorem u_X9_between (E : xE) (d : Nat) (r : Int × Hp) : ∀ n : Nat, (∀ (x0 x1 x2 : Int) (h : Hp), Lay h → g_X9_between n 0 [x0, x1, x2] h = some r → X E mX9_between (d + 4) (0, 0) (0, 0) 0 [some (xr 9 x0), some (xi x1), some (xi x2)] [] h (PoI r)) := by
  intro n
  induction n with
  | zero => exact fun _ _ _ _ _ hF => no_e (r := r) hF
  | succ n ih => exact fun x0 x1 x2 h hL hF => t_X9_between_0 E d (g_X9_between n) n r  x0 x1 x2 h hL hF
theorem c_X9_between (d n : Nat) (x0 x1 x2 : Int) (h : Hp) (r : Int × Hp) (hL : Lay h) (hF : f_X9_between n x0 x1 x2 h = some r) : Sp mX9_between (d + 4) (0, 0) [xr 9 x0, xi x1, xi x2] h (PoI r) :=
  sp_of (by decide) rfl (Nat.le_of_ble_eq_true rfl) (ls := [some (xr 9 x0), some (xi x1), some (xi x2)]) rfl (fun E _ => (u_X9_between E d r n) x0 x1 x2 h hL hF)
theorem dX9_measure_0 : decode cX9_measure 0 = .ok (.iconst 0, 1) := by decide +kernel
theorem dX9_measure_1 : decode cX9_measure 1 = .ok (.istore_n 1, 1) := by decide +kernel
theorem dX9_measure_2 : decode cX9_measure 2 = .ok (.iload_n 1, 1) := by decide +kernel
theorem dX9_measure_3 : decode cX9_measure 3 = .ok (.aload_n 0, 1) := by decide +kernel
theorem dX9_measure_4 : decode cX9_measure 4 = .ok (.getfield 31, 3) := by decide +kernel
theorem dX9_measure_7 : decode cX9_measure 7 = .ok (.if_icmp .ge 25, 3) := by decide +kernel
theorem dX9_measure_10 : decode cX9_measure 10 = .ok (.iload_n 1, 1) := by decide +kernel
theorem dX9_measure_11 : decode cX9_measure 11 = .ok (.iconst 3, 1) := by decide +kernel
theorem dX9_measure_12 : decode cX9_measure 12 = .ok (.if_icmp .ge 20, 3) := by decide +kernel
theorem dX9_measure_15 : decode cX9_measure 15 = .ok (.aload_n 0, 1) := by decide +kernel
theorem dX9_measure_16 : decode cX9_measure 16 = .ok (.aload_n 0, 1) := by decide +kernel
theorem dX9_measure_17 : decode cX9_measure 17 = .ok (.getfield 38, 3) := by decide +kernel
theorem dX9_measure_20 : decode cX9_measure 20 = .ok (.iload_n 1, 1) := by decide +kernel
theorem dX9_measure_21 : decode cX9_measure 21 = .ok (.iaload, 1) := by decide +kernel
theorem dX9_measure_22 : decode cX9_measure 22 = .ok (.iload_n 1, 1) := by decide +kernel
theorem dX9_measure_23 : decode cX9_measure 23 = .ok (.invokevirtual 57, 3) := by decide +kernel
theorem dX9_measure_26 : decode cX9_measure 26 = .ok (.iinc 1 1, 3) := by decide +kernel
theorem dX9_measure_29 : decode cX9_measure 29 = .ok (.goto (-27), 3) := by decide +kernel
theorem dX9_measure_32 : decode cX9_measure 32 = .ok (.aload_n 0, 1) := by decide +kernel
theorem dX9_measure_33 : decode cX9_measure 33 = .ok (.aload_n 0, 1) := by decide +kernel
theorem dX9_measure_34 : decode cX9_measure 34 = .ok (.getfield 28, 3) := by decide +kernel
theorem dX9_measure_37 : decode cX9_measure 37 = .ok (.iconst 3, 1) := by decide +kernel
theorem dX9_measure_38 : decode cX9_measure 38 = .ok (.invokevirtual 57, 3) := by decide +kernel
theorem dX9_measure_41 : decode cX9_measure 41 = .ok (.return_, 1) := by decide +kernel
noncomputable def b_X9_measure_0 (rec : Rk) (n : Nat) (x0 : Int) (h : Hp) : Option (Int × Hp) :=
  rec 1 [x0, 0] h
noncomputable def b_X9_measure_1 (rec : Rk) (n : Nat) (x0 x1 : Int) (h : Hp) : Option (Int × Hp) :=
  if (gI h 9 x0 6) ≤ x1 then (
    rec 2 [x0] h
  ) else (
    if 3 ≤ x1 then (
      rec 2 [x0] h
    ) else (
      ck (0 ≤ x1 ∧ x1 < 3) <|
      bd (f_X9_spread n x0 (gI h 52 x0 x1) x1 h) fun v1 h2 =>
      ck (-2147483648 ≤ x1 + 1 ∧ x1 + 1 < 2147483648) <|
      rec 1 [x0, x1 + 1] h2
    )
  )
noncomputable def b_X9_measure_2 (rec : Rk) (n : Nat) (x0 : Int) (h : Hp) : Option (Int × Hp) :=
  bd (f_X9_spread n x0 (gI h 9 x0 5) 3 h) fun v1 h2 =>
  some (0, h2)
noncomputable def g_X9_measure (n : Nat) : Rk := Nat.rec (motive := fun _ => Rk) (fun _ _ _ => none) (fun n rec k l h => if k = 0 then b_X9_measure_0 rec n (l.getD 0 0) h else if k = 1 then b_X9_measure_1 rec n (l.getD 0 0) (l.getD 1 0) h else if k = 2 then b_X9_measure_2 rec n (l.getD 0 0) h else none) n
noncomputable def f_X9_measure (n : Nat) (x0 : Int) (h : Hp) : Option (Int × Hp) := g_X9_measure n 0 [x0] h
set_option maxHeartbeats 4000000 in
set_option maxRecDepth 100000 in
theorem t_X9_measure_0 (E : xE) (d : Nat) (rec : Rk) (n : Nat) (r : Int × Hp) (hr_2 : ∀ (x0 x1 : Int) (h : Hp), Lay h → rec 1 [x0, x1] h = some r → X E mX9_measure (d + 4) (0, 0) (0, 0) 2 [some (xr 9 x0), some (xi x1)] [] h (PoV r)) (x0 : Int) (h : Hp) (hL : Lay h) (hF : b_X9_measure_0 rec n x0 h = some r) : X E mX9_measure (d + 4) (0, 0) (0, 0) 0 [some (xr 9 x0), none] [] h (PoV r) := by
  unfold b_X9_measure_0 at hF
  refine x_iconst (n := 0) (b := 1) dX9_measure_0 (by decide) rfl ?_
  refine x_istore_n (i := 1) (b := 2) (ls2 := [some (xr 9 x0), some (xi 0)]) dX9_measure_1 rfl (Nat.le_of_ble_eq_true rfl) rfl rfl ?_
  exact x_dp (ls2 := [some (xr 9 x0), some (xi 0)]) ⟨rfl, rfl, trivial⟩ (hr_2 x0 0 h hL hF)
set_option maxHeartbeats 4000000 in
set_option maxRecDepth 100000 in
theorem t_X9_measure_1 (E : xE) (d : Nat) (rec : Rk) (n : Nat) (r : Int × Hp) (hr_2 : ∀ (x0 x1 : Int) (h : Hp), Lay h → rec 1 [x0, x1] h = some r → X E mX9_measure (d + 4) (0, 0) (0, 0) 2 [some (xr 9 x0), some (xi x1)] [] h (PoV r)) (hr_32 : ∀ (x0 : Int) (h : Hp), Lay h → rec 2 [x0] h = some r → X E mX9_measure (d + 4) (0, 0) (0, 0) 32 [some (xr 9 x0), none] [] h (PoV r)) (x0 x1 : Int) (h : Hp) (hL : Lay h) (hF : b_X9_measure_1 rec n x0 x1 h = some r) : X E mX9_measure (d + 4) (0, 0) (0, 0) 2 [some (xr 9 x0), some (xi x1)] [] h (PoV r) := by
  unfold b_X9_measure_1 at hF
  refine x_iload_n (i := 1) (b := 3) dX9_measure_2 rfl rfl rfl ?_
  refine x_aload_n (i := 0) (b := 4) dX9_measure_3 rfl rfl rfl ?_
  refine x_getI (v := gI h 9 x0 6) (b := 7) fk_X9_31 dX9_measure_4 (by decide) rfl rfl ?_
  refine x_icmp_ge (tgt := 32) (b := 10) dX9_measure_7 (by decide) rfl (fun hc => ?_) (fun hc => ?_)
  · replace hF := br_T hc hF
    exact x_dp (ls2 := [some (xr 9 x0), none]) ⟨rfl, trivial⟩ (hr_32 x0 h hL hF)
  · replace hF := br_F hc hF
    refine x_iload_n (i := 1) (b := 11) dX9_measure_10 rfl rfl rfl ?_
    refine x_iconst (n := 3) (b := 12) dX9_measure_11 (by decide) rfl ?_
    refine x_icmp_ge (tgt := 32) (b := 15) dX9_measure_12 (by decide) rfl (fun hc => ?_) (fun hc => ?_)
    · replace hF := br_T hc hF
      exact x_dp (ls2 := [some (xr 9 x0), none]) ⟨rfl, trivial⟩ (hr_32 x0 h hL hF)
    · replace hF := br_F hc hF
      refine x_aload_n (i := 0) (b := 16) dX9_measure_15 rfl rfl rfl ?_
      refine x_aload_n (i := 0) (b := 17) dX9_measure_16 rfl rfl rfl ?_
      refine x_getL (j := x0) (t := (52, 0, true)) (b := 20) fk_X9_38 dX9_measure_17 rfl hL rfl rfl rfl ?_
      refine x_iload_n (i := 1) (b := 21) dX9_measure_20 rfl rfl rfl ?_
      obtain ⟨hs, hF⟩ := ck_e hF
      refine x_iald (v := gI h 52 x0 x1) (b := 22) ak_52 dX9_measure_21 hs rfl rfl ?_
      refine x_iload_n (i := 1) (b := 23) dX9_measure_22 rfl rfl rfl ?_
      obtain ⟨v1, h2, hq, hF⟩ := bd_e hF
      refine x_callV (as := [xi (gI h 52 x0 x1), xi x1]) (rest := []) (b := 26) (c_X9_spread d n x0 (gI h 52 x0 x1) x1 h _ hL hq) dX9_measure_23 cw_X9_57 ⟨_, _, rfl, Nat.le_of_ble_eq_true rfl⟩ rfl rfl (Nat.le_of_ble_eq_true rfl) ⟨Nat.le_refl _, Nat.le_refl _⟩ rfl (fun rv hh hp _ => ?_)
      obtain ⟨rfl, rfl, hL⟩ := hp
      obtain ⟨hs, hF⟩ := ck_e hF
      refine x_iinc (i := 1) (b := 29) (ls2 := [some (xr 9 x0), some (xi (x1 + 1))]) dX9_measure_26 rfl (Nat.le_of_ble_eq_true rfl) hs rfl rfl ?_
      refine x_goto (tgt := 2) dX9_measure_29 (by decide) ?_
      exact x_dp (ls2 := [some (xr 9 x0), some (xi (x1 + 1))]) ⟨rfl, rfl, trivial⟩ (hr_2 x0 (x1 + 1) h2 hL hF)
set_option maxHeartbeats 4000000 in
set_option maxRecDepth 100000 in
theorem t_X9_measure_2 (E : xE) (d : Nat) (rec : Rk) (n : Nat) (r : Int × Hp) (x0 : Int) (h : Hp) (hL : Lay h) (hF : b_X9_measure_2 rec n x0 h = some r) : X E mX9_measure (d + 4) (0, 0) (0, 0) 32 [some (xr 9 x0), none] [] h (PoV r) := by
  unfold b_X9_measure_2 at hF
  refine x_aload_n (i := 0) (b := 33) dX9_measure_32 rfl rfl rfl ?_
  refine x_aload_n (i := 0) (b := 34) dX9_measure_33 rfl rfl rfl ?_
  refine x_getI (v := gI h 9 x0 5) (b := 37) fk_X9_28 dX9_measure_34 (by decide) rfl rfl ?_
  refine x_iconst (n := 3) (b := 38) dX9_measure_37 (by decide) rfl ?_
  obtain ⟨v1, h2, hq, hF⟩ := bd_e hF
  refine x_callV (as := [xi (gI h 9 x0 5), xi 3]) (rest := []) (b := 41) (c_X9_spread d n x0 (gI h 9 x0 5) 3 h _ hL hq) dX9_measure_38 cw_X9_57 ⟨_, _, rfl, Nat.le_of_ble_eq_true rfl⟩ rfl rfl (Nat.le_of_ble_eq_true rfl) ⟨Nat.le_refl _, Nat.le_refl _⟩ rfl (fun rv hh hp _ => ?_)
  obtain ⟨rfl, rfl, hL⟩ := hp
  refine x_return dX9_measure_41 rfl ⟨Nat.le_refl _, Nat.le_refl _⟩ ?_
  cases hF
  exact ⟨rfl, rfl, hL⟩
set_option maxHeartbeats 4000000 in
set_option maxRecDepth 100000 in
theorem u_X9_measure (E : xE) (d : Nat) (r : Int × Hp) : ∀ n : Nat, (∀ (x0 : Int) (h : Hp), Lay h → g_X9_measure n 0 [x0] h = some r → X E mX9_measure (d + 4) (0, 0) (0, 0) 0 [some (xr 9 x0), none] [] h (PoV r)) ∧ (∀ (x0 x1 : Int) (h : Hp), Lay h → g_X9_measure n 1 [x0, x1] h = some r → X E mX9_measure (d + 4) (0, 0) (0, 0) 2 [some (xr 9 x0), some (xi x1)] [] h (PoV r)) ∧ (∀ (x0 : Int) (h : Hp), Lay h → g_X9_measure n 2 [x0] h = some r → X E mX9_measure (d + 4) (0, 0) (0, 0) 32 [some (xr 9 x0), none] [] h (PoV r)) := by
  intro n
  induction n with
  | zero => exact ⟨fun _ _ _ hF => no_e (r := r) hF, fun _ _ _ _ hF => no_e (r := r) hF, fun _ _ _ hF => no_e (r := r) hF⟩
  | succ n ih => exact ⟨fun x0 h hL hF => t_X9_measure_0 E d (g_X9_measure n) n r ih.2.1 x0 h hL hF, fun x0 x1 h hL hF => t_X9_measure_1 E d (g_X9_measure n) n r ih.2.1 ih.2.2 x0 x1 h hL hF, fun x0 h hL hF => t_X9_measure_2 E d (g_X9_measure n) n r  x0 h hL hF⟩
theorem c_X9_measure (d n : Nat) (x0 : Int) (h : Hp) (r : Int × Hp) (hL : Lay h) (hF : f_X9_measure n x0 h = some r) : Sp mX9_measure (d + 4) (0, 0) [xr 9 x0] h (PoV r) :=
  sp_of (by decide) rfl (Nat.le_of_ble_eq_true rfl) (ls := [some (xr 9 x0), none]) rfl (fun E _ => (u_X9_measure E d r n).1 x0 h hL hF)
theorem dX0_close_0 : decode cX0_close 0 = .ok (.iconst 0, 1) := by decide +kernel
theorem dX0_close_1 : decode cX0_close 1 = .ok (.istore_n 1, 1) := by decide +kernel
theorem dX0_close_2 : decode cX0_close 2 = .ok (.iload_n 1, 1) := by decide +kernel
theorem dX0_close_3 : decode cX0_close 3 = .ok (.aload_n 0, 1) := by decide +kernel
theorem dX0_close_4 : decode cX0_close 4 = .ok (.getfield 35, 3) := by decide +kernel
theorem dX0_close_7 : decode cX0_close 7 = .ok (.if_icmp .ge 68, 3) := by decide +kernel
theorem dX0_close_10 : decode cX0_close 10 = .ok (.aload_n 0, 1) := by decide +kernel
theorem dX0_close_11 : decode cX0_close 11 = .ok (.getfield 31, 3) := by decide +kernel
theorem dX0_close_14 : decode cX0_close 14 = .ok (.iload_n 1, 1) := by decide +kernel
theorem dX0_close_15 : decode cX0_close 15 = .ok (.iadd, 1) := by decide +kernel
theorem dX0_close_16 : decode cX0_close 16 = .ok (.bipush 9, 2) := by decide +kernel
theorem dX0_close_18 : decode cX0_close 18 = .ok (.if_icmp .ge 57, 3) := by decide +kernel
theorem dX0_close_21 : decode cX0_close 21 = .ok (.iconst 5, 1) := by decide +kernel
theorem dX0_close_22 : decode cX0_close 22 = .ok (.iload_n 1, 1) := by decide +kernel
theorem dX0_close_23 : decode cX0_close 23 = .ok (.iadd, 1) := by decide +kernel
theorem dX0_close_24 : decode cX0_close 24 = .ok (.bipush 9, 2) := by decide +kernel
theorem dX0_close_26 : decode cX0_close 26 = .ok (.if_icmp .ge 49, 3) := by decide +kernel
theorem dX0_close_29 : decode cX0_close 29 = .ok (.aload_n 0, 1) := by decide +kernel
theorem dX0_close_30 : decode cX0_close 30 = .ok (.getfield 27, 3) := by decide +kernel
theorem dX0_close_33 : decode cX0_close 33 = .ok (.iconst 5, 1) := by decide +kernel
theorem dX0_close_34 : decode cX0_close 34 = .ok (.iload_n 1, 1) := by decide +kernel
theorem dX0_close_35 : decode cX0_close 35 = .ok (.iadd, 1) := by decide +kernel
theorem dX0_close_36 : decode cX0_close 36 = .ok (.aaload, 1) := by decide +kernel
theorem dX0_close_37 : decode cX0_close 37 = .ok (.astore_n 2, 1) := by decide +kernel
theorem dX0_close_38 : decode cX0_close 38 = .ok (.aload_n 0, 1) := by decide +kernel
theorem dX0_close_39 : decode cX0_close 39 = .ok (.getfield 27, 3) := by decide +kernel
theorem dX0_close_42 : decode cX0_close 42 = .ok (.iconst 5, 1) := by decide +kernel
theorem dX0_close_43 : decode cX0_close 43 = .ok (.iload_n 1, 1) := by decide +kernel
theorem dX0_close_44 : decode cX0_close 44 = .ok (.iadd, 1) := by decide +kernel
theorem dX0_close_45 : decode cX0_close 45 = .ok (.aload_n 0, 1) := by decide +kernel
theorem dX0_close_46 : decode cX0_close 46 = .ok (.getfield 27, 3) := by decide +kernel
theorem dX0_close_49 : decode cX0_close 49 = .ok (.aload_n 0, 1) := by decide +kernel
theorem dX0_close_50 : decode cX0_close 50 = .ok (.getfield 31, 3) := by decide +kernel
theorem dX0_close_53 : decode cX0_close 53 = .ok (.iload_n 1, 1) := by decide +kernel
theorem dX0_close_54 : decode cX0_close 54 = .ok (.iadd, 1) := by decide +kernel
theorem dX0_close_55 : decode cX0_close 55 = .ok (.aaload, 1) := by decide +kernel
theorem dX0_close_56 : decode cX0_close 56 = .ok (.aastore, 1) := by decide +kernel
theorem dX0_close_57 : decode cX0_close 57 = .ok (.aload_n 0, 1) := by decide +kernel
theorem dX0_close_58 : decode cX0_close 58 = .ok (.getfield 27, 3) := by decide +kernel
theorem dX0_close_61 : decode cX0_close 61 = .ok (.aload_n 0, 1) := by decide +kernel
theorem dX0_close_62 : decode cX0_close 62 = .ok (.getfield 31, 3) := by decide +kernel
theorem dX0_close_65 : decode cX0_close 65 = .ok (.iload_n 1, 1) := by decide +kernel
theorem dX0_close_66 : decode cX0_close 66 = .ok (.iadd, 1) := by decide +kernel
theorem dX0_close_67 : decode cX0_close 67 = .ok (.aload_n 2, 1) := by decide +kernel
theorem dX0_close_68 : decode cX0_close 68 = .ok (.aastore, 1) := by decide +kernel
theorem dX0_close_69 : decode cX0_close 69 = .ok (.iinc 1 1, 3) := by decide +kernel
theorem dX0_close_72 : decode cX0_close 72 = .ok (.goto (-70), 3) := by decide +kernel
theorem dX0_close_75 : decode cX0_close 75 = .ok (.aload_n 0, 1) := by decide +kernel
theorem dX0_close_76 : decode cX0_close 76 = .ok (.getfield 12, 3) := by decide +kernel
theorem dX0_close_79 : decode cX0_close 79 = .ok (.invokevirtual 73, 3) := by decide +kernel
theorem dX0_close_82 : decode cX0_close 82 = .ok (.return_, 1) := by decide +kernel
noncomputable def b_X0_close_0 (rec : Rk) (n : Nat) (x0 : Int) (h : Hp) : Option (Int × Hp) :=
  rec 1 [x0, 0] h
noncomputable def b_X0_close_1 (rec : Rk) (n : Nat) (x0 x1 : Int) (h : Hp) : Option (Int × Hp) :=
  if (gI h 0 x0 4) ≤ x1 then (
    rec 2 [x0] h
  ) else (
    ck (-2147483648 ≤ (gI h 0 x0 3) + x1 ∧ (gI h 0 x0 3) + x1 < 2147483648) <|
    if 9 ≤ ((gI h 0 x0 3) + x1) then (
      rec 2 [x0] h
    ) else (
      ck (-2147483648 ≤ 5 + x1 ∧ 5 + x1 < 2147483648) <|
      if 9 ≤ (5 + x1) then (
        rec 2 [x0] h
      ) else (
        ck (-2147483648 ≤ 5 + x1 ∧ 5 + x1 < 2147483648) <|
        ck (0 ≤ (5 + x1) ∧ (5 + x1) < 9) <|
        rf (gR h 20 x0 (5 + x1)) 4 fun j1 =>
        ck (-2147483648 ≤ 5 + x1 ∧ 5 + x1 < 2147483648) <|
        ck (-2147483648 ≤ (gI h 0 x0 3) + x1 ∧ (gI h 0 x0 3) + x1 < 2147483648) <|
        ck (0 ≤ ((gI h 0 x0 3) + x1) ∧ ((gI h 0 x0 3) + x1) < 9) <|
        rf (gR h 20 x0 ((gI h 0 x0 3) + x1)) 4 fun j2 =>
        ck (0 ≤ (5 + x1) ∧ (5 + x1) < 9) <|
        lt (sR h 20 x0 (5 + x1) (some (4, j2))) fun h3 =>
        ck (-2147483648 ≤ (gI h3 0 x0 3) + x1 ∧ (gI h3 0 x0 3) + x1 < 2147483648) <|
        ck (0 ≤ ((gI h3 0 x0 3) + x1) ∧ ((gI h3 0 x0 3) + x1) < 9) <|
        lt (sR h3 20 x0 ((gI h3 0 x0 3) + x1) (some (4, j1))) fun h4 =>
        ck (-2147483648 ≤ x1 + 1 ∧ x1 + 1 < 2147483648) <|
        rec 1 [x0, x1 + 1] h4
      )
    )
  )
noncomputable def b_X0_close_2 (rec : Rk) (n : Nat) (x0 : Int) (h : Hp) : Option (Int × Hp) :=
  bd (f_X9_measure n x0 h) fun v1 h2 =>
  some (0, h2)
noncomputable def g_X0_close (n : Nat) : Rk := Nat.rec (motive := fun _ => Rk) (fun _ _ _ => none) (fun n rec k l h => if k = 0 then b_X0_close_0 rec n (l.getD 0 0) h else if k = 1 then b_X0_close_1 rec n (l.getD 0 0) (l.getD 1 0) h else if k = 2 then b_X0_close_2 rec n (l.getD 0 0) h else none) n
noncomputable def f_X0_close (n : Nat) (x0 : Int) (h : Hp) : Option (Int × Hp) := g_X0_close n 0 [x0] h
set_option maxHeartbeats 4000000 in
set_option maxRecDepth 100000 in
theorem t_X0_close_0 (E : xE) (d : Nat) (rec : Rk) (n : Nat) (r : Int × Hp) (hr_2 : ∀ (x0 x1 : Int) (h : Hp), Lay h → rec 1 [x0, x1] h = some r → X E mX0_close (d + 5) (0, 0) (0, 0) 2 [some (xr 0 x0), some (xi x1), none] [] h (PoV r)) (x0 : Int) (h : Hp) (hL : Lay h) (hF : b_X0_close_0 rec n x0 h = some r) : X E mX0_close (d + 5) (0, 0) (0, 0) 0 [some (xr 0 x0), none, none] [] h (PoV r) := by
  unfold b_X0_close_0 at hF
  refine x_iconst (n := 0) (b := 1) dX0_close_0 (by decide) rfl ?_
  refine x_istore_n (i := 1) (b := 2) (ls2 := [some (xr 0 x0), some (xi 0), none]) dX0_close_1 rfl (Nat.le_of_ble_eq_true rfl) rfl rfl ?_
  exact x_dp (ls2 := [some (xr 0 x0), some (xi 0), none]) ⟨rfl, rfl, trivial⟩ (hr_2 x0 0 h hL hF)
set_option maxHeartbeats 4000000 in
set_option maxRecDepth 100000 in
theorem t_X0_close_1 (E : xE) (d : Nat) (rec : Rk) (n : Nat) (r : Int × Hp) (hr_2 : ∀ (x0 x1 : Int) (h : Hp), Lay h → rec 1 [x0, x1] h = some r → X E mX0_close (d + 5) (0, 0) (0, 0) 2 [some (xr 0 x0), some (xi x1), none] [] h (PoV r)) (hr_75 : ∀ (x0 : Int) (h : Hp), Lay h → rec 2 [x0] h = some r → X E mX0_close (d + 5) (0, 0) (0, 0) 75 [some (xr 0 x0), none, none] [] h (PoV r)) (x0 x1 : Int) (h : Hp) (hL : Lay h) (hF : b_X0_close_1 rec n x0 x1 h = some r) : X E mX0_close (d + 5) (0, 0) (0, 0) 2 [some (xr 0 x0), some (xi x1), none] [] h (PoV r) := by
  unfold b_X0_close_1 at hF
  refine x_iload_n (i := 1) (b := 3) dX0_close_2 rfl rfl rfl ?_
  refine x_aload_n (i := 0) (b := 4) dX0_close_3 rfl rfl rfl ?_
  refine x_getI (v := gI h 0 x0 4) (b := 7) fk_X0_35 dX0_close_4 (by decide) rfl rfl ?_
  refine x_icmp_ge (tgt := 75) (b := 10) dX0_close_7 (by decide) rfl (fun hc => ?_) (fun hc => ?_)
  · replace hF := br_T hc hF
    exact x_dp (ls2 := [some (xr 0 x0), none, none]) ⟨rfl, trivial⟩ (hr_75 x0 h hL hF)
  · replace hF := br_F hc hF
    refine x_aload_n (i := 0) (b := 11) dX0_close_10 rfl rfl rfl ?_
    refine x_getI (v := gI h 0 x0 3) (b := 14) fk_X0_31 dX0_close_11 (by decide) rfl rfl ?_
    refine x_iload_n (i := 1) (b := 15) dX0_close_14 rfl rfl rfl ?_
    obtain ⟨hs, hF⟩ := ck_e hF
    refine x_iadd (b := 16) dX0_close_15 hs rfl ?_
    refine x_bipush (n := 9) (b := 18) dX0_close_16 (by decide) rfl ?_
    refine x_icmp_ge (tgt := 75) (b := 21) dX0_close_18 (by decide) rfl (fun hc => ?_) (fun hc => ?_)
    · replace hF := br_T hc hF
      exact x_dp (ls2 := [some (xr 0 x0), none, none]) ⟨rfl, trivial⟩ (hr_75 x0 h hL hF)
    · replace hF := br_F hc hF
      refine x_iconst (n := 5) (b := 22) dX0_close_21 (by decide) rfl ?_
      refine x_iload_n (i := 1) (b := 23) dX0_close_22 rfl rfl rfl ?_
      obtain ⟨hs, hF⟩ := ck_e hF
      refine x_iadd (b := 24) dX0_close_23 hs rfl ?_
      refine x_bipush (n := 9) (b := 26) dX0_close_24 (by decide) rfl ?_
      refine x_icmp_ge (tgt := 75) (b := 29) dX0_close_26 (by decide) rfl (fun hc => ?_) (fun hc => ?_)
      · replace hF := br_T hc hF
        exact x_dp (ls2 := [some (xr 0 x0), none, none]) ⟨rfl, trivial⟩ (hr_75 x0 h hL hF)
      · replace hF := br_F hc hF
        refine x_aload_n (i := 0) (b := 30) dX0_close_29 rfl rfl rfl ?_
        refine x_getL (j := x0) (t := (20, 0, true)) (b := 33) fk_X0_27 dX0_close_30 rfl hL rfl rfl rfl ?_
        refine x_iconst (n := 5) (b := 34) dX0_close_33 (by decide) rfl ?_
        refine x_iload_n (i := 1) (b := 35) dX0_close_34 rfl rfl rfl ?_
        obtain ⟨hs, hF⟩ := ck_e hF
        refine x_iadd (b := 36) dX0_close_35 hs rfl ?_
        obtain ⟨hs, hF⟩ := ck_e hF
        obtain ⟨j1, e_j1, hF⟩ := rf_e hF
        refine x_aaldM (v := some (4, j1)) (b := 37) ak_20 dX0_close_36 hs e_j1 rfl ?_
        refine x_astore_n (i := 2) (b := 38) (ls2 := [some (xr 0 x0), some (xi x1), some (xr 4 j1)]) dX0_close_37 rfl (Nat.le_of_ble_eq_true rfl) rfl rfl ?_
        refine x_aload_n (i := 0) (b := 39) dX0_close_38 rfl rfl rfl ?_
        refine x_getL (j := x0) (t := (20, 0, true)) (b := 42) fk_X0_27 dX0_close_39 rfl hL rfl rfl rfl ?_
        refine x_iconst (n := 5) (b := 43) dX0_close_42 (by decide) rfl ?_
        refine x_iload_n (i := 1) (b := 44) dX0_close_43 rfl rfl rfl ?_
        obtain ⟨hs, hF⟩ := ck_e hF
        refine x_iadd (b := 45) dX0_close_44 hs rfl ?_
        refine x_aload_n (i := 0) (b := 46) dX0_close_45 rfl rfl rfl ?_
        refine x_getL (j := x0) (t := (20, 0, true)) (b := 49) fk_X0_27 dX0_close_46 rfl hL rfl rfl rfl ?_
        refine x_aload_n (i := 0) (b := 50) dX0_close_49 rfl rfl rfl ?_
        refine x_getI (v := gI h 0 x0 3) (b := 53) fk_X0_31 dX0_close_50 (by decide) rfl rfl ?_
        refine x_iload_n (i := 1) (b := 54) dX0_close_53 rfl rfl rfl ?_
        obtain ⟨hs, hF⟩ := ck_e hF
        refine x_iadd (b := 55) dX0_close_54 hs rfl ?_
        obtain ⟨hs, hF⟩ := ck_e hF
        obtain ⟨j2, e_j2, hF⟩ := rf_e hF
        refine x_aaldM (v := some (4, j2)) (b := 56) ak_20 dX0_close_55 hs e_j2 rfl ?_
        obtain ⟨hs, hF⟩ := ck_e hF
        have hs1 := hs
        refine x_aastM (b := 57) ak_20 dX0_close_56 hs1 rfl ?_
        obtain ⟨h3, e_h3, hF⟩ := lt_e hF
        refine x_hp (h2 := h3) e_h3 ?_
        replace hL : Lay h3 := by rw [← e_h3]; exact lay_sR hL (fun _ _ => xtg_hi (by decide))
        refine x_aload_n (i := 0) (b := 58) dX0_close_57 rfl rfl rfl ?_
        refine x_getL (j := x0) (t := (20, 0, true)) (b := 61) fk_X0_27 dX0_close_58 rfl hL rfl rfl rfl ?_
        refine x_aload_n (i := 0) (b := 62) dX0_close_61 rfl rfl rfl ?_
        refine x_getI (v := gI h3 0 x0 3) (b := 65) fk_X0_31 dX0_close_62 (by decide) rfl rfl ?_
        refine x_iload_n (i := 1) (b := 66) dX0_close_65 rfl rfl rfl ?_
        obtain ⟨hs, hF⟩ := ck_e hF
        refine x_iadd (b := 67) dX0_close_66 hs rfl ?_
        refine x_aload_n (i := 2) (b := 68) dX0_close_67 rfl rfl rfl ?_
        obtain ⟨hs, hF⟩ := ck_e hF
        have hs1 := hs
        refine x_aastM (b := 69) ak_20 dX0_close_68 hs1 rfl ?_
        obtain ⟨h4, e_h4, hF⟩ := lt_e hF
        refine x_hp (h2 := h4) e_h4 ?_
        replace hL : Lay h4 := by rw [← e_h4]; exact lay_sR hL (fun _ _ => xtg_hi (by decide))
        obtain ⟨hs, hF⟩ := ck_e hF
        refine x_iinc (i := 1) (b := 72) (ls2 := [some (xr 0 x0), some (xi (x1 + 1)), some (xr 4 j1)]) dX0_close_69 rfl (Nat.le_of_ble_eq_true rfl) hs rfl rfl ?_
        refine x_goto (tgt := 2) dX0_close_72 (by decide) ?_
        exact x_dp (ls2 := [some (xr 0 x0), some (xi (x1 + 1)), none]) ⟨rfl, rfl, trivial⟩ (hr_2 x0 (x1 + 1) h4 hL hF)
set_option maxHeartbeats 4000000 in
set_option maxRecDepth 100000 in
theorem t_X0_close_2 (E : xE) (d : Nat) (rec : Rk) (n : Nat) (r : Int × Hp) (x0 : Int) (h : Hp) (hL : Lay h) (hF : b_X0_close_2 rec n x0 h = some r) : X E mX0_close (d + 5) (0, 0) (0, 0) 75 [some (xr 0 x0), none, none] [] h (PoV r) := by
  unfold b_X0_close_2 at hF
  refine x_aload_n (i := 0) (b := 76) dX0_close_75 rfl rfl rfl ?_
  refine x_getL (j := x0) (t := (9, 0, true)) (b := 79) fk_X0_12 dX0_close_76 rfl hL rfl rfl rfl ?_
  obtain ⟨v1, h2, hq, hF⟩ := bd_e hF
  refine x_callV (as := []) (rest := []) (b := 82) (c_X9_measure d n x0 h _ hL hq) dX0_close_79 cw_X0_73 ⟨_, _, rfl, Nat.le_of_ble_eq_true rfl⟩ rfl rfl (Nat.le_of_ble_eq_true rfl) ⟨Nat.le_refl _, Nat.le_refl _⟩ rfl (fun rv hh hp _ => ?_)
  obtain ⟨rfl, rfl, hL⟩ := hp
  refine x_return dX0_close_82 rfl ⟨Nat.le_refl _, Nat.le_refl _⟩ ?_
  cases hF
  exact ⟨rfl, rfl, hL⟩
set_option maxHeartbeats 4000000 in
set_option maxRecDepth 100000 in
theorem u_X0_close (E : xE) (d : Nat) (r : Int × Hp) : ∀ n : Nat, (∀ (x0 : Int) (h : Hp), Lay h → g_X0_close n 0 [x0] h = some r → X E mX0_close (d + 5) (0, 0) (0, 0) 0 [some (xr 0 x0), none, none] [] h (PoV r)) ∧ (∀ (x0 x1 : Int) (h : Hp), Lay h → g_X0_close n 1 [x0, x1] h = some r → X E mX0_close (d + 5) (0, 0) (0, 0) 2 [some (xr 0 x0), some (xi x1), none] [] h (PoV r)) ∧ (∀ (x0 : Int) (h : Hp), Lay h → g_X0_close n 2 [x0] h = some r → X E mX0_close (d + 5) (0, 0) (0, 0) 75 [some (xr 0 x0), none, none] [] h (PoV r)) := by
  intro n
  induction n with
  | zero => exact ⟨fun _ _ _ hF => no_e (r := r) hF, fun _ _ _ _ hF => no_e (r := r) hF, fun _ _ _ hF => no_e (r := r) hF⟩
  | succ n ih => exact ⟨fun x0 h hL hF => t_X0_close_0 E d (g_X0_close n) n r ih.2.1 x0 h hL hF, fun x0 x1 h hL hF => t_X0_close_1 E d (g_X0_close n) n r ih.2.1 ih.2.2 x0 x1 h hL hF, fun x0 h hL hF => t_X0_close_2 E d (g_X0_close n) n r  x0 h hL hF⟩
theorem c_X0_close (d n : Nat) (x0 : Int) (h : Hp) (r : Int × Hp) (hL : Lay h) (hF : f_X0_close n x0 h = some r) : Sp mX0_close (d + 5) (0, 0) [xr 0 x0] h (PoV r) :=
  sp_of (by decide) rfl (Nat.le_of_ble_eq_true rfl) (ls := [some (xr 0 x0), none, none]) rfl (fun E _ => (u_X0_close E d r n).1 x0 h hL hF)
theorem dX11_count_0 : decode cX11_count 0 = .ok (.iload_n 1, 1) := by decide +kernel
theorem dX11_count_1 : decode cX11_count 1 = .ok (.tableswitch 160 0 10 #[59, 70, 81, 89, 97, 108, 119, 127, 135, 143, 148], 59) := by decide +kernel
theorem dX11_count_60 : decode cX11_count 60 = .ok (.aload_n 0, 1) := by decide +kernel
theorem dX11_count_61 : decode cX11_count 61 = .ok (.getfield 20, 3) := by decide +kernel
theorem dX11_count_64 : decode cX11_count 64 = .ok (.getfield 122, 3) := by decide +kernel
theorem dX11_count_67 : decode cX11_count 67 = .ok (.getfield 342, 3) := by decide +kernel
theorem dX11_count_70 : decode cX11_count 70 = .ok (.ireturn, 1) := by decide +kernel
theorem dX11_count_71 : decode cX11_count 71 = .ok (.aload_n 0, 1) := by decide +kernel
theorem dX11_count_72 : decode cX11_count 72 = .ok (.getfield 20, 3) := by decide +kernel
theorem dX11_count_75 : decode cX11_count 75 = .ok (.getfield 122, 3) := by decide +kernel
theorem dX11_count_78 : decode cX11_count 78 = .ok (.getfield 345, 3) := by decide +kernel
theorem dX11_count_81 : decode cX11_count 81 = .ok (.ireturn, 1) := by decide +kernel
theorem dX11_count_82 : decode cX11_count 82 = .ok (.aload_n 0, 1) := by decide +kernel
theorem dX11_count_83 : decode cX11_count 83 = .ok (.getfield 20, 3) := by decide +kernel
theorem dX11_count_86 : decode cX11_count 86 = .ok (.getfield 234, 3) := by decide +kernel
theorem dX11_count_89 : decode cX11_count 89 = .ok (.ireturn, 1) := by decide +kernel
theorem dX11_count_90 : decode cX11_count 90 = .ok (.aload_n 0, 1) := by decide +kernel
theorem dX11_count_91 : decode cX11_count 91 = .ok (.getfield 20, 3) := by decide +kernel
theorem dX11_count_94 : decode cX11_count 94 = .ok (.getfield 237, 3) := by decide +kernel
theorem dX11_count_97 : decode cX11_count 97 = .ok (.ireturn, 1) := by decide +kernel
theorem dX11_count_98 : decode cX11_count 98 = .ok (.aload_n 0, 1) := by decide +kernel
theorem dX11_count_99 : decode cX11_count 99 = .ok (.getfield 20, 3) := by decide +kernel
theorem dX11_count_102 : decode cX11_count 102 = .ok (.getfield 122, 3) := by decide +kernel
theorem dX11_count_105 : decode cX11_count 105 = .ok (.getfield 348, 3) := by decide +kernel
theorem dX11_count_108 : decode cX11_count 108 = .ok (.ireturn, 1) := by decide +kernel
theorem dX11_count_109 : decode cX11_count 109 = .ok (.aload_n 0, 1) := by decide +kernel
theorem dX11_count_110 : decode cX11_count 110 = .ok (.getfield 20, 3) := by decide +kernel
theorem dX11_count_113 : decode cX11_count 113 = .ok (.getfield 351, 3) := by decide +kernel
theorem dX11_count_116 : decode cX11_count 116 = .ok (.getfield 355, 3) := by decide +kernel
theorem dX11_count_119 : decode cX11_count 119 = .ok (.ireturn, 1) := by decide +kernel
theorem dX11_count_120 : decode cX11_count 120 = .ok (.aload_n 0, 1) := by decide +kernel
theorem dX11_count_121 : decode cX11_count 121 = .ok (.getfield 57, 3) := by decide +kernel
theorem dX11_count_124 : decode cX11_count 124 = .ok (.getfield 195, 3) := by decide +kernel
theorem dX11_count_127 : decode cX11_count 127 = .ok (.ireturn, 1) := by decide +kernel
theorem dX11_count_128 : decode cX11_count 128 = .ok (.aload_n 0, 1) := by decide +kernel
theorem dX11_count_129 : decode cX11_count 129 = .ok (.getfield 88, 3) := by decide +kernel
theorem dX11_count_132 : decode cX11_count 132 = .ok (.getfield 305, 3) := by decide +kernel
theorem dX11_count_135 : decode cX11_count 135 = .ok (.ireturn, 1) := by decide +kernel
theorem dX11_count_136 : decode cX11_count 136 = .ok (.aload_n 0, 1) := by decide +kernel
theorem dX11_count_137 : decode cX11_count 137 = .ok (.getfield 88, 3) := by decide +kernel
theorem dX11_count_140 : decode cX11_count 140 = .ok (.invokevirtual 356, 3) := by decide +kernel
theorem dX11_count_143 : decode cX11_count 143 = .ok (.ireturn, 1) := by decide +kernel
theorem dX11_count_144 : decode cX11_count 144 = .ok (.aload_n 0, 1) := by decide +kernel
theorem dX11_count_145 : decode cX11_count 145 = .ok (.getfield 72, 3) := by decide +kernel
theorem dX11_count_148 : decode cX11_count 148 = .ok (.ireturn, 1) := by decide +kernel
theorem dX11_count_149 : decode cX11_count 149 = .ok (.aload_n 0, 1) := by decide +kernel
theorem dX11_count_150 : decode cX11_count 150 = .ok (.getfield 41, 3) := by decide +kernel
theorem dX11_count_153 : decode cX11_count 153 = .ok (.aload_n 0, 1) := by decide +kernel
theorem dX11_count_154 : decode cX11_count 154 = .ok (.getfield 57, 3) := by decide +kernel
theorem dX11_count_157 : decode cX11_count 157 = .ok (.invokevirtual 288, 3) := by decide +kernel
theorem dX11_count_160 : decode cX11_count 160 = .ok (.ireturn, 1) := by decide +kernel
theorem dX11_count_161 : decode cX11_count 161 = .ok (.iconst (-1), 1) := by decide +kernel
theorem dX11_count_162 : decode cX11_count 162 = .ok (.ireturn, 1) := by decide +kernel
noncomputable def b_X11_count_0 (rec : Rk) (n : Nat) (x1 : Int) (h : Hp) : Option (Int × Hp) :=
  if x1 = 0 then (
    rf (gR h 11 0 2) 0 fun j1 =>
    some (gI h 9 j1 0, h)
  ) else (
  if x1 = 1 then (
    rf (gR h 11 0 2) 0 fun j2 =>
    some (gI h 9 j2 1, h)
  ) else (
  if x1 = 2 then (
    rf (gR h 11 0 2) 0 fun j3 =>
    some (gI h 0 j3 3, h)
  ) else (
  if x1 = 3 then (
    rf (gR h 11 0 2) 0 fun j4 =>
    some (gI h 0 j4 4, h)
  ) else (
  if x1 = 4 then (
    rf (gR h 11 0 2) 0 fun j5 =>
    some (gI h 9 j5 6, h)
  ) else (
  if x1 = 5 then (
    rf (gR h 11 0 2) 0 fun j6 =>
    some (gI h 1 j6 2, h)
  ) else (
  if x1 = 6 then (
    some (gI h 10 0 0, h)
  ) else (
  if x1 = 7 then (
    some (gI h 5 0 4, h)
  ) else (
  if x1 = 8 then (
    bd (f_X5_inForce n h) fun v7 h8 =>
    some (v7, h8)
  ) else (
  if x1 = 9 then (
    some (gI h 11 0 10, h)
  ) else (
  if x1 = 10 then (
    bd (f_X2_aboard n 0 h) fun v9 h10 =>
    some (v9, h10)
  ) else (
  some ((-1), h)
  )
  )
  )
  )
  )
  )
  )
  )
  )
  )
  )
noncomputable def g_X11_count (n : Nat) : Rk := Nat.rec (motive := fun _ => Rk) (fun _ _ _ => none) (fun n rec k l h => if k = 0 then b_X11_count_0 rec n (l.getD 0 0) h else none) n
noncomputable def f_X11_count (n : Nat) (x1 : Int) (h : Hp) : Option (Int × Hp) := g_X11_count n 0 [x1] h
set_option maxHeartbeats 4000000 in
set_option maxRecDepth 100000 in
theorem t_X11_count_0 (E : xE) (d : Nat) (rec : Rk) (n : Nat) (r : Int × Hp) (x1 : Int) (h : Hp) (hL : Lay h) (hF : b_X11_count_0 rec n x1 h = some r) : X E mX11_count (d + 5) (0, 0) (0, 0) 0 [some (xr 11 0), some (xi x1)] [] h (PoI r) := by
  unfold b_X11_count_0 at hF
  refine x_iload_n (i := 1) (b := 1) dX11_count_0 rfl rfl rfl ?_
  by_cases hw1_0 : x1 = 0
  · replace hF := br_T hw1_0 hF
    refine x_tableIn (tgt := 60) dX11_count_1 0 hw1_0 ⟨by decide, by decide⟩ rfl (by decide) ?_
    refine x_aload_n (i := 0) (b := 61) dX11_count_60 rfl rfl rfl ?_
    obtain ⟨j1, e_j1, hF⟩ := rf_e hF
    refine x_getR (v := some (0, j1)) (b := 64) fk_X11_20 dX11_count_61 rfl e_j1 rfl ?_
    refine x_getL (j := j1) (t := (9, 0, true)) (b := 67) fk_X11_122 dX11_count_64 rfl hL rfl rfl rfl ?_
    refine x_getI (v := gI h 9 j1 0) (b := 70) fk_X11_342 dX11_count_67 (by decide) rfl rfl ?_
    refine x_ireturn dX11_count_70 rfl ⟨Nat.le_refl _, Nat.le_refl _⟩ ?_
    cases hF
    exact ⟨rfl, rfl, hL⟩
  replace hF := br_F hw1_0 hF
  by_cases hw1_1 : x1 = 1
  · replace hF := br_T hw1_1 hF
    refine x_tableIn (tgt := 71) dX11_count_1 1 hw1_1 ⟨by decide, by decide⟩ rfl (by decide) ?_
    refine x_aload_n (i := 0) (b := 72) dX11_count_71 rfl rfl rfl ?_
    obtain ⟨j2, e_j2, hF⟩ := rf_e hF
    refine x_getR (v := some (0, j2)) (b := 75) fk_X11_20 dX11_count_72 rfl e_j2 rfl ?_
    refine x_getL (j := j2) (t := (9, 0, true)) (b := 78) fk_X11_122 dX11_count_75 rfl hL rfl rfl rfl ?_
    refine x_getI (v := gI h 9 j2 1) (b := 81) fk_X11_345 dX11_count_78 (by decide) rfl rfl ?_
    refine x_ireturn dX11_count_81 rfl ⟨Nat.le_refl _, Nat.le_refl _⟩ ?_
    cases hF
    exact ⟨rfl, rfl, hL⟩
  replace hF := br_F hw1_1 hF
  by_cases hw1_2 : x1 = 2
  · replace hF := br_T hw1_2 hF
    refine x_tableIn (tgt := 82) dX11_count_1 2 hw1_2 ⟨by decide, by decide⟩ rfl (by decide) ?_
    refine x_aload_n (i := 0) (b := 83) dX11_count_82 rfl rfl rfl ?_
    obtain ⟨j3, e_j3, hF⟩ := rf_e hF
    refine x_getR (v := some (0, j3)) (b := 86) fk_X11_20 dX11_count_83 rfl e_j3 rfl ?_
    refine x_getI (v := gI h 0 j3 3) (b := 89) fk_X11_234 dX11_count_86 (by decide) rfl rfl ?_
    refine x_ireturn dX11_count_89 rfl ⟨Nat.le_refl _, Nat.le_refl _⟩ ?_
    cases hF
    exact ⟨rfl, rfl, hL⟩
  replace hF := br_F hw1_2 hF
  by_cases hw1_3 : x1 = 3
  · replace hF := br_T hw1_3 hF
    refine x_tableIn (tgt := 90) dX11_count_1 3 hw1_3 ⟨by decide, by decide⟩ rfl (by decide) ?_
    refine x_aload_n (i := 0) (b := 91) dX11_count_90 rfl rfl rfl ?_
    obtain ⟨j4, e_j4, hF⟩ := rf_e hF
    refine x_getR (v := some (0, j4)) (b := 94) fk_X11_20 dX11_count_91 rfl e_j4 rfl ?_
    refine x_getI (v := gI h 0 j4 4) (b := 97) fk_X11_237 dX11_count_94 (by decide) rfl rfl ?_
    refine x_ireturn dX11_count_97 rfl ⟨Nat.le_refl _, Nat.le_refl _⟩ ?_
    cases hF
    exact ⟨rfl, rfl, hL⟩
  replace hF := br_F hw1_3 hF
  by_cases hw1_4 : x1 = 4
  · replace hF := br_T hw1_4 hF
    refine x_tableIn (tgt := 98) dX11_count_1 4 hw1_4 ⟨by decide, by decide⟩ rfl (by decide) ?_
    refine x_aload_n (i := 0) (b := 99) dX11_count_98 rfl rfl rfl ?_
    obtain ⟨j5, e_j5, hF⟩ := rf_e hF
    refine x_getR (v := some (0, j5)) (b := 102) fk_X11_20 dX11_count_99 rfl e_j5 rfl ?_
    refine x_getL (j := j5) (t := (9, 0, true)) (b := 105) fk_X11_122 dX11_count_102 rfl hL rfl rfl rfl ?_
    refine x_getI (v := gI h 9 j5 6) (b := 108) fk_X11_348 dX11_count_105 (by decide) rfl rfl ?_
    refine x_ireturn dX11_count_108 rfl ⟨Nat.le_refl _, Nat.le_refl _⟩ ?_
    cases hF
    exact ⟨rfl, rfl, hL⟩
  replace hF := br_F hw1_4 hF
  by_cases hw1_5 : x1 = 5
  · replace hF := br_T hw1_5 hF
    refine x_tableIn (tgt := 109) dX11_count_1 5 hw1_5 ⟨by decide, by decide⟩ rfl (by decide) ?_
    refine x_aload_n (i := 0) (b := 110) dX11_count_109 rfl rfl rfl ?_
    obtain ⟨j6, e_j6, hF⟩ := rf_e hF
    refine x_getR (v := some (0, j6)) (b := 113) fk_X11_20 dX11_count_110 rfl e_j6 rfl ?_
    refine x_getL (j := j6) (t := (1, 0, true)) (b := 116) fk_X11_351 dX11_count_113 rfl hL rfl rfl rfl ?_
    refine x_getI (v := gI h 1 j6 2) (b := 119) fk_X11_355 dX11_count_116 (by decide) rfl rfl ?_
    refine x_ireturn dX11_count_119 rfl ⟨Nat.le_refl _, Nat.le_refl _⟩ ?_
    cases hF
    exact ⟨rfl, rfl, hL⟩
  replace hF := br_F hw1_5 hF
  by_cases hw1_6 : x1 = 6
  · replace hF := br_T hw1_6 hF
    refine x_tableIn (tgt := 120) dX11_count_1 6 hw1_6 ⟨by decide, by decide⟩ rfl (by decide) ?_
    refine x_aload_n (i := 0) (b := 121) dX11_count_120 rfl rfl rfl ?_
    refine x_getL (j := 0) (t := (10, 0, false)) (b := 124) fk_X11_57 dX11_count_121 rfl hL rfl rfl rfl ?_
    refine x_getI (v := gI h 10 0 0) (b := 127) fk_X11_195 dX11_count_124 (by decide) rfl rfl ?_
    refine x_ireturn dX11_count_127 rfl ⟨Nat.le_refl _, Nat.le_refl _⟩ ?_
    cases hF
    exact ⟨rfl, rfl, hL⟩
  replace hF := br_F hw1_6 hF
  by_cases hw1_7 : x1 = 7
  · replace hF := br_T hw1_7 hF
    refine x_tableIn (tgt := 128) dX11_count_1 7 hw1_7 ⟨by decide, by decide⟩ rfl (by decide) ?_
    refine x_aload_n (i := 0) (b := 129) dX11_count_128 rfl rfl rfl ?_
    refine x_getL (j := 0) (t := (5, 0, false)) (b := 132) fk_X11_88 dX11_count_129 rfl hL rfl rfl rfl ?_
    refine x_getI (v := gI h 5 0 4) (b := 135) fk_X11_305 dX11_count_132 (by decide) rfl rfl ?_
    refine x_ireturn dX11_count_135 rfl ⟨Nat.le_refl _, Nat.le_refl _⟩ ?_
    cases hF
    exact ⟨rfl, rfl, hL⟩
  replace hF := br_F hw1_7 hF
  by_cases hw1_8 : x1 = 8
  · replace hF := br_T hw1_8 hF
    refine x_tableIn (tgt := 136) dX11_count_1 8 hw1_8 ⟨by decide, by decide⟩ rfl (by decide) ?_
    refine x_aload_n (i := 0) (b := 137) dX11_count_136 rfl rfl rfl ?_
    refine x_getL (j := 0) (t := (5, 0, false)) (b := 140) fk_X11_88 dX11_count_137 rfl hL rfl rfl rfl ?_
    obtain ⟨v7, h8, hq, hF⟩ := bd_e hF
    refine x_callV (as := []) (rest := []) (b := 143) (c_X5_inForce (d + 3) n h _ hL hq) dX11_count_140 cw_X11_356 ⟨_, _, rfl, Nat.le_of_ble_eq_true rfl⟩ rfl rfl (Nat.le_of_ble_eq_true rfl) ⟨Nat.le_refl _, Nat.le_refl _⟩ rfl (fun rv hh hp _ => ?_)
    obtain ⟨rfl, rfl, hL⟩ := hp
    refine x_ireturn dX11_count_143 rfl ⟨Nat.le_refl _, Nat.le_refl _⟩ ?_
    cases hF
    exact ⟨rfl, rfl, hL⟩
  replace hF := br_F hw1_8 hF
  by_cases hw1_9 : x1 = 9
  · replace hF := br_T hw1_9 hF
    refine x_tableIn (tgt := 144) dX11_count_1 9 hw1_9 ⟨by decide, by decide⟩ rfl (by decide) ?_
    refine x_aload_n (i := 0) (b := 145) dX11_count_144 rfl rfl rfl ?_
    refine x_getI (v := gI h 11 0 10) (b := 148) fk_X11_72 dX11_count_145 (by decide) rfl rfl ?_
    refine x_ireturn dX11_count_148 rfl ⟨Nat.le_refl _, Nat.le_refl _⟩ ?_
    cases hF
    exact ⟨rfl, rfl, hL⟩
  replace hF := br_F hw1_9 hF
  by_cases hw1_10 : x1 = 10
  · replace hF := br_T hw1_10 hF
    refine x_tableIn (tgt := 149) dX11_count_1 10 hw1_10 ⟨by decide, by decide⟩ rfl (by decide) ?_
    refine x_aload_n (i := 0) (b := 150) dX11_count_149 rfl rfl rfl ?_
    refine x_getL (j := 0) (t := (2, 0, false)) (b := 153) fk_X11_41 dX11_count_150 rfl hL rfl rfl rfl ?_
    refine x_aload_n (i := 0) (b := 154) dX11_count_153 rfl rfl rfl ?_
    refine x_getL (j := 0) (t := (10, 0, false)) (b := 157) fk_X11_57 dX11_count_154 rfl hL rfl rfl rfl ?_
    obtain ⟨v9, h10, hq, hF⟩ := bd_e hF
    refine x_callV (as := [xr 10 0]) (rest := []) (b := 160) (c_X2_aboard d n 0 h _ hL hq) dX11_count_157 cw_X11_288 ⟨_, _, rfl, Nat.le_of_ble_eq_true rfl⟩ rfl rfl (Nat.le_of_ble_eq_true rfl) ⟨Nat.le_refl _, Nat.le_refl _⟩ rfl (fun rv hh hp _ => ?_)
    obtain ⟨rfl, rfl, hL⟩ := hp
    refine x_ireturn dX11_count_160 rfl ⟨Nat.le_refl _, Nat.le_refl _⟩ ?_
    cases hF
    exact ⟨rfl, rfl, hL⟩
  replace hF := br_F hw1_10 hF
  refine x_tableOut (tgt := 161) dX11_count_1 (by omega) (by decide) ?_
  refine x_iconst (n := (-1)) (b := 162) dX11_count_161 (by decide) rfl ?_
  refine x_ireturn dX11_count_162 rfl ⟨Nat.le_refl _, Nat.le_refl _⟩ ?_
  cases hF
  exact ⟨rfl, rfl, hL⟩
set_option maxHeartbeats 4000000 in
set_option maxRecDepth 100000 in
theorem u_X11_count (E : xE) (d : Nat) (r : Int × Hp) : ∀ n : Nat, (∀ (x1 : Int) (h : Hp), Lay h → g_X11_count n 0 [x1] h = some r → X E mX11_count (d + 5) (0, 0) (0, 0) 0 [some (xr 11 0), some (xi x1)] [] h (PoI r)) := by
  intro n
  induction n with
  | zero => exact fun _ _ _ hF => no_e (r := r) hF
  | succ n ih => exact fun x1 h hL hF => t_X11_count_0 E d (g_X11_count n) n r  x1 h hL hF
theorem c_X11_count (d n : Nat) (x1 : Int) (h : Hp) (r : Int × Hp) (hL : Lay h) (hF : f_X11_count n x1 h = some r) : Sp mX11_count (d + 5) (0, 0) [xr 11 0, xi x1] h (PoI r) :=
  sp_of (by decide) rfl (Nat.le_of_ble_eq_true rfl) (ls := [some (xr 11 0), some (xi x1)]) rfl (fun E _ => (u_X11_count E d r n) x1 h hL hF)
theorem dX11_far_0 : decode cX11_far 0 = .ok (.aload_n 0, 1) := by decide +kernel
theorem dX11_far_1 : decode cX11_far 1 = .ok (.getfield 20, 3) := by decide +kernel
theorem dX11_far_4 : decode cX11_far 4 = .ok (.getfield 122, 3) := by decide +kernel
theorem dX11_far_7 : decode cX11_far 7 = .ok (.iload_n 1, 1) := by decide +kernel
theorem dX11_far_8 : decode cX11_far 8 = .ok (.invokevirtual 185, 3) := by decide +kernel
theorem dX11_far_11 : decode cX11_far 11 = .ok (.ifCond .eq 17, 3) := by decide +kernel
theorem dX11_far_14 : decode cX11_far 14 = .ok (.aload_n 0, 1) := by decide +kernel
theorem dX11_far_15 : decode cX11_far 15 = .ok (.getfield 20, 3) := by decide +kernel
theorem dX11_far_18 : decode cX11_far 18 = .ok (.getfield 122, 3) := by decide +kernel
theorem dX11_far_21 : decode cX11_far 21 = .ok (.iload_n 2, 1) := by decide +kernel
theorem dX11_far_22 : decode cX11_far 22 = .ok (.invokevirtual 185, 3) := by decide +kernel
theorem dX11_far_25 : decode cX11_far 25 = .ok (.ifCond .ne 5, 3) := by decide +kernel
theorem dX11_far_28 : decode cX11_far 28 = .ok (.iconst (-1), 1) := by decide +kernel
theorem dX11_far_29 : decode cX11_far 29 = .ok (.ireturn, 1) := by decide +kernel
theorem dX11_far_30 : decode cX11_far 30 = .ok (.aload_n 0, 1) := by decide +kernel
theorem dX11_far_31 : decode cX11_far 31 = .ok (.getfield 20, 3) := by decide +kernel
theorem dX11_far_34 : decode cX11_far 34 = .ok (.getfield 122, 3) := by decide +kernel
theorem dX11_far_37 : decode cX11_far 37 = .ok (.iload_n 1, 1) := by decide +kernel
theorem dX11_far_38 : decode cX11_far 38 = .ok (.iload_n 2, 1) := by decide +kernel
theorem dX11_far_39 : decode cX11_far 39 = .ok (.invokevirtual 188, 3) := by decide +kernel
theorem dX11_far_42 : decode cX11_far 42 = .ok (.ireturn, 1) := by decide +kernel
noncomputable def b_X11_far_0 (rec : Rk) (n : Nat) (x1 x2 : Int) (h : Hp) : Option (Int × Hp) :=
  rf (gR h 11 0 2) 0 fun j1 =>
  bd (f_X9_isCell n j1 x1 h) fun v2 h3 =>
  if v2 = 0 then (
    some ((-1), h3)
  ) else (
    rf (gR h3 11 0 2) 0 fun j4 =>
    bd (f_X9_isCell n j4 x2 h3) fun v5 h6 =>
    if v5 = 0 then (
      some ((-1), h6)
    ) else (
      rf (gR h6 11 0 2) 0 fun j7 =>
      bd (f_X9_between n j7 x1 x2 h6) fun v8 h9 =>
      some (v8, h9)
    )
  )
noncomputable def g_X11_far (n : Nat) : Rk := Nat.rec (motive := fun _ => Rk) (fun _ _ _ => none) (fun n rec k l h => if k = 0 then b_X11_far_0 rec n (l.getD 0 0) (l.getD 1 0) h else none) n
noncomputable def f_X11_far (n : Nat) (x1 x2 : Int) (h : Hp) : Option (Int × Hp) := g_X11_far n 0 [x1, x2] h
set_option maxHeartbeats 4000000 in
set_option maxRecDepth 100000 in
theorem t_X11_far_0 (E : xE) (d : Nat) (rec : Rk) (n : Nat) (r : Int × Hp) (x1 x2 : Int) (h : Hp) (hL : Lay h) (hF : b_X11_far_0 rec n x1 x2 h = some r) : X E mX11_far (d + 5) (0, 0) (0, 0) 0 [some (xr 11 0), some (xi x1), some (xi x2)] [] h (PoI r) := by
  unfold b_X11_far_0 at hF
  refine x_aload_n (i := 0) (b := 1) dX11_far_0 rfl rfl rfl ?_
  obtain ⟨j1, e_j1, hF⟩ := rf_e hF
  refine x_getR (v := some (0, j1)) (b := 4) fk_X11_20 dX11_far_1 rfl e_j1 rfl ?_
  refine x_getL (j := j1) (t := (9, 0, true)) (b := 7) fk_X11_122 dX11_far_4 rfl hL rfl rfl rfl ?_
  refine x_iload_n (i := 1) (b := 8) dX11_far_7 rfl rfl rfl ?_
  obtain ⟨v2, h3, hq, hF⟩ := bd_e hF
  refine x_callV (as := [xi x1]) (rest := []) (b := 11) (c_X9_isCell (d + 3) n j1 x1 h _ hL hq) dX11_far_8 cw_X11_185 ⟨_, _, rfl, Nat.le_of_ble_eq_true rfl⟩ rfl rfl (Nat.le_of_ble_eq_true rfl) ⟨Nat.le_refl _, Nat.le_refl _⟩ rfl (fun rv hh hp _ => ?_)
  obtain ⟨rfl, rfl, hL⟩ := hp
  refine x_if_eq (tgt := 28) (b := 14) dX11_far_11 (by decide) rfl (fun hc => ?_) (fun hc => ?_)
  · replace hF := br_T hc hF
    refine x_iconst (n := (-1)) (b := 29) dX11_far_28 (by decide) rfl ?_
    refine x_ireturn dX11_far_29 rfl ⟨Nat.le_refl _, Nat.le_refl _⟩ ?_
    cases hF
    exact ⟨rfl, rfl, hL⟩
  · replace hF := br_F hc hF
    refine x_aload_n (i := 0) (b := 15) dX11_far_14 rfl rfl rfl ?_
    obtain ⟨j4, e_j4, hF⟩ := rf_e hF
    refine x_getR (v := some (0, j4)) (b := 18) fk_X11_20 dX11_far_15 rfl e_j4 rfl ?_
    refine x_getL (j := j4) (t := (9, 0, true)) (b := 21) fk_X11_122 dX11_far_18 rfl hL rfl rfl rfl ?_
    refine x_iload_n (i := 2) (b := 22) dX11_far_21 rfl rfl rfl ?_
    obtain ⟨v5, h6, hq, hF⟩ := bd_e hF
    refine x_callV (as := [xi x2]) (rest := []) (b := 25) (c_X9_isCell (d + 3) n j4 x2 h3 _ hL hq) dX11_far_22 cw_X11_185 ⟨_, _, rfl, Nat.le_of_ble_eq_true rfl⟩ rfl rfl (Nat.le_of_ble_eq_true rfl) ⟨Nat.le_refl _, Nat.le_refl _⟩ rfl (fun rv hh hp _ => ?_)
    obtain ⟨rfl, rfl, hL⟩ := hp
    refine x_if_ne (tgt := 30) (b := 28) dX11_far_25 (by decide) rfl (fun hc => ?_) (fun hc => ?_)
    · replace hF := br_F hc hF
      refine x_aload_n (i := 0) (b := 31) dX11_far_30 rfl rfl rfl ?_
      obtain ⟨j7, e_j7, hF⟩ := rf_e hF
      refine x_getR (v := some (0, j7)) (b := 34) fk_X11_20 dX11_far_31 rfl e_j7 rfl ?_
      refine x_getL (j := j7) (t := (9, 0, true)) (b := 37) fk_X11_122 dX11_far_34 rfl hL rfl rfl rfl ?_
      refine x_iload_n (i := 1) (b := 38) dX11_far_37 rfl rfl rfl ?_
      refine x_iload_n (i := 2) (b := 39) dX11_far_38 rfl rfl rfl ?_
      obtain ⟨v8, h9, hq, hF⟩ := bd_e hF
      refine x_callV (as := [xi x1, xi x2]) (rest := []) (b := 42) (c_X9_between d n j7 x1 x2 h6 _ hL hq) dX11_far_39 cw_X11_188 ⟨_, _, rfl, Nat.le_of_ble_eq_true rfl⟩ rfl rfl (Nat.le_of_ble_eq_true rfl) ⟨Nat.le_refl _, Nat.le_refl _⟩ rfl (fun rv hh hp _ => ?_)
      obtain ⟨rfl, rfl, hL⟩ := hp
      refine x_ireturn dX11_far_42 rfl ⟨Nat.le_refl _, Nat.le_refl _⟩ ?_
      cases hF
      exact ⟨rfl, rfl, hL⟩
    · replace hF := br_T hc hF
      refine x_iconst (n := (-1)) (b := 29) dX11_far_28 (by decide) rfl ?_
      refine x_ireturn dX11_far_29 rfl ⟨Nat.le_refl _, Nat.le_refl _⟩ ?_
      cases hF
      exact ⟨rfl, rfl, hL⟩
set_option maxHeartbeats 4000000 in
set_option maxRecDepth 100000 in
theorem u_X11_far (E : xE) (d : Nat) (r : Int × Hp) : ∀ n : Nat, (∀ (x1 x2 : Int) (h : Hp), Lay h → g_X11_far n 0 [x1, x2] h = some r → X E mX11_far (d + 5) (0, 0) (0, 0) 0 [some (xr 11 0), some (xi x1), some (xi x2)] [] h (PoI r)) := by
  intro n
  induction n with
  | zero => exact fun _ _ _ _ hF => no_e (r := r) hF
  | succ n ih => exact fun x1 x2 h hL hF => t_X11_far_0 E d (g_X11_far n) n r  x1 x2 h hL hF
theorem c_X11_far (d n : Nat) (x1 x2 : Int) (h : Hp) (r : Int × Hp) (hL : Lay h) (hF : f_X11_far n x1 x2 h = some r) : Sp mX11_far (d + 5) (0, 0) [xr 11 0, xi x1, xi x2] h (PoI r) :=
  sp_of (by decide) rfl (Nat.le_of_ble_eq_true rfl) (ls := [some (xr 11 0), some (xi x1), some (xi x2)]) rfl (fun E _ => (u_X11_far E d r n) x1 x2 h hL hF)
theorem dX11_votes_0 : decode cX11_votes 0 = .ok (.iload_n 1, 1) := by decide +kernel
theorem dX11_votes_1 : decode cX11_votes 1 = .ok (.invokestatic 213, 3) := by decide +kernel
theorem dX11_votes_4 : decode cX11_votes 4 = .ok (.ifCond .eq 10, 3) := by decide +kernel
theorem dX11_votes_7 : decode cX11_votes 7 = .ok (.aload_n 0, 1) := by decide +kernel
theorem dX11_votes_8 : decode cX11_votes 8 = .ok (.invokevirtual 198, 3) := by decide +kernel
theorem dX11_votes_11 : decode cX11_votes 11 = .ok (.ifCond .ne 5, 3) := by decide +kernel
theorem dX11_votes_14 : decode cX11_votes 14 = .ok (.iconst (-1), 1) := by decide +kernel
theorem dX11_votes_15 : decode cX11_votes 15 = .ok (.ireturn, 1) := by decide +kernel
theorem dX11_votes_16 : decode cX11_votes 16 = .ok (.aload_n 0, 1) := by decide +kernel
theorem dX11_votes_17 : decode cX11_votes 17 = .ok (.getfield 41, 3) := by decide +kernel
theorem dX11_votes_20 : decode cX11_votes 20 = .ok (.aload_n 0, 1) := by decide +kernel
theorem dX11_votes_21 : decode cX11_votes 21 = .ok (.getfield 57, 3) := by decide +kernel
theorem dX11_votes_24 : decode cX11_votes 24 = .ok (.aload_n 0, 1) := by decide +kernel
theorem dX11_votes_25 : decode cX11_votes 25 = .ok (.getfield 57, 3) := by decide +kernel
theorem dX11_votes_28 : decode cX11_votes 28 = .ok (.getfield 161, 3) := by decide +kernel
theorem dX11_votes_31 : decode cX11_votes 31 = .ok (.invokevirtual 202, 3) := by decide +kernel
theorem dX11_votes_34 : decode cX11_votes 34 = .ok (.aload_n 0, 1) := by decide +kernel
theorem dX11_votes_35 : decode cX11_votes 35 = .ok (.getfield 41, 3) := by decide +kernel
theorem dX11_votes_38 : decode cX11_votes 38 = .ok (.aload_n 0, 1) := by decide +kernel
theorem dX11_votes_39 : decode cX11_votes 39 = .ok (.getfield 57, 3) := by decide +kernel
theorem dX11_votes_42 : decode cX11_votes 42 = .ok (.invokevirtual 227, 3) := by decide +kernel
theorem dX11_votes_45 : decode cX11_votes 45 = .ok (.aload_n 0, 1) := by decide +kernel
theorem dX11_votes_46 : decode cX11_votes 46 = .ok (.getfield 41, 3) := by decide +kernel
theorem dX11_votes_49 : decode cX11_votes 49 = .ok (.getfield 231, 3) := by decide +kernel
theorem dX11_votes_52 : decode cX11_votes 52 = .ok (.iload_n 1, 1) := by decide +kernel
theorem dX11_votes_53 : decode cX11_votes 53 = .ok (.iaload, 1) := by decide +kernel
theorem dX11_votes_54 : decode cX11_votes 54 = .ok (.ireturn, 1) := by decide +kernel
noncomputable def b_X11_votes_0 (rec : Rk) (n : Nat) (x1 : Int) (h : Hp) : Option (Int × Hp) :=
  bd (f_X11_isCourse n x1 h) fun v1 h2 =>
  if v1 = 0 then (
    some ((-1), h2)
  ) else (
    bd (f_X11_mealIsNext n h2) fun v3 h4 =>
    if v3 = 0 then (
      some ((-1), h4)
    ) else (
      bd (f_X2_serve n 0 (gI h4 10 0 4) h4) fun v5 h6 =>
      bd (f_X2_poll n 0 h6) fun v7 h8 =>
      ck (0 ≤ x1 ∧ x1 < 4) <|
      some (gI h8 31 0 x1, h8)
    )
  )
noncomputable def g_X11_votes (n : Nat) : Rk := Nat.rec (motive := fun _ => Rk) (fun _ _ _ => none) (fun n rec k l h => if k = 0 then b_X11_votes_0 rec n (l.getD 0 0) h else none) n
noncomputable def f_X11_votes (n : Nat) (x1 : Int) (h : Hp) : Option (Int × Hp) := g_X11_votes n 0 [x1] h
set_option maxHeartbeats 4000000 in
set_option maxRecDepth 100000 in
theorem t_X11_votes_0 (E : xE) (d : Nat) (rec : Rk) (n : Nat) (r : Int × Hp) (x1 : Int) (h : Hp) (hL : Lay h) (hF : b_X11_votes_0 rec n x1 h = some r) : X E mX11_votes (d + 6) (0, 0) (0, 0) 0 [some (xr 11 0), some (xi x1)] [] h (PoI r) := by
  unfold b_X11_votes_0 at hF
  refine x_iload_n (i := 1) (b := 1) dX11_votes_0 rfl rfl rfl ?_
  obtain ⟨v1, h2, hq, hF⟩ := bd_e hF
  refine x_callS (as := [xi x1]) (rest := []) (b := 4) (c_X11_isCourse (d + 4) n x1 h _ hL hq) dX11_votes_1 cw_X11_213 rfl rfl (Nat.le_of_ble_eq_true rfl) ⟨Nat.le_refl _, Nat.le_refl _⟩ rfl (fun rv hh hp _ => ?_)
  obtain ⟨rfl, rfl, hL⟩ := hp
  refine x_if_eq (tgt := 14) (b := 7) dX11_votes_4 (by decide) rfl (fun hc => ?_) (fun hc => ?_)
  · replace hF := br_T hc hF
    refine x_iconst (n := (-1)) (b := 15) dX11_votes_14 (by decide) rfl ?_
    refine x_ireturn dX11_votes_15 rfl ⟨Nat.le_refl _, Nat.le_refl _⟩ ?_
    cases hF
    exact ⟨rfl, rfl, hL⟩
  · replace hF := br_F hc hF
    refine x_aload_n (i := 0) (b := 8) dX11_votes_7 rfl rfl rfl ?_
    obtain ⟨v3, h4, hq, hF⟩ := bd_e hF
    refine x_callV (as := []) (rest := []) (b := 11) (c_X11_mealIsNext (d + 4) n h2 _ hL hq) dX11_votes_8 cw_X11_198 ⟨_, _, rfl, Nat.le_of_ble_eq_true rfl⟩ rfl rfl (Nat.le_of_ble_eq_true rfl) ⟨Nat.le_refl _, Nat.le_refl _⟩ rfl (fun rv hh hp _ => ?_)
    obtain ⟨rfl, rfl, hL⟩ := hp
    refine x_if_ne (tgt := 16) (b := 14) dX11_votes_11 (by decide) rfl (fun hc => ?_) (fun hc => ?_)
    · replace hF := br_F hc hF
      refine x_aload_n (i := 0) (b := 17) dX11_votes_16 rfl rfl rfl ?_
      refine x_getL (j := 0) (t := (2, 0, false)) (b := 20) fk_X11_41 dX11_votes_17 rfl hL rfl rfl rfl ?_
      refine x_aload_n (i := 0) (b := 21) dX11_votes_20 rfl rfl rfl ?_
      refine x_getL (j := 0) (t := (10, 0, false)) (b := 24) fk_X11_57 dX11_votes_21 rfl hL rfl rfl rfl ?_
      refine x_aload_n (i := 0) (b := 25) dX11_votes_24 rfl rfl rfl ?_
      refine x_getL (j := 0) (t := (10, 0, false)) (b := 28) fk_X11_57 dX11_votes_25 rfl hL rfl rfl rfl ?_
      refine x_getI (v := gI h4 10 0 4) (b := 31) fk_X11_161 dX11_votes_28 (by decide) rfl rfl ?_
      obtain ⟨v5, h6, hq, hF⟩ := bd_e hF
      refine x_callV (as := [xr 10 0, xi (gI h4 10 0 4)]) (rest := []) (b := 34) (c_X2_serve (d + 1) n 0 (gI h4 10 0 4) h4 _ hL hq) dX11_votes_31 cw_X11_202 ⟨_, _, rfl, Nat.le_of_ble_eq_true rfl⟩ rfl rfl (Nat.le_of_ble_eq_true rfl) ⟨Nat.le_refl _, Nat.le_refl _⟩ rfl (fun rv hh hp _ => ?_)
      obtain ⟨rfl, rfl, hL⟩ := hp
      refine x_aload_n (i := 0) (b := 35) dX11_votes_34 rfl rfl rfl ?_
      refine x_getL (j := 0) (t := (2, 0, false)) (b := 38) fk_X11_41 dX11_votes_35 rfl hL rfl rfl rfl ?_
      refine x_aload_n (i := 0) (b := 39) dX11_votes_38 rfl rfl rfl ?_
      refine x_getL (j := 0) (t := (10, 0, false)) (b := 42) fk_X11_57 dX11_votes_39 rfl hL rfl rfl rfl ?_
      obtain ⟨v7, h8, hq, hF⟩ := bd_e hF
      refine x_callV (as := [xr 10 0]) (rest := []) (b := 45) (c_X2_poll d n 0 h6 _ hL hq) dX11_votes_42 cw_X11_227 ⟨_, _, rfl, Nat.le_of_ble_eq_true rfl⟩ rfl rfl (Nat.le_of_ble_eq_true rfl) ⟨Nat.le_refl _, Nat.le_refl _⟩ rfl (fun rv hh hp _ => ?_)
      obtain ⟨rfl, rfl, hL⟩ := hp
      refine x_aload_n (i := 0) (b := 46) dX11_votes_45 rfl rfl rfl ?_
      refine x_getL (j := 0) (t := (2, 0, false)) (b := 49) fk_X11_41 dX11_votes_46 rfl hL rfl rfl rfl ?_
      refine x_getL (j := 0) (t := (31, 0, true)) (b := 52) fk_X11_231 dX11_votes_49 rfl hL rfl rfl rfl ?_
      refine x_iload_n (i := 1) (b := 53) dX11_votes_52 rfl rfl rfl ?_
      obtain ⟨hs, hF⟩ := ck_e hF
      refine x_iald (v := gI h8 31 0 x1) (b := 54) ak_31 dX11_votes_53 hs rfl rfl ?_
      refine x_ireturn dX11_votes_54 rfl ⟨Nat.le_refl _, Nat.le_refl _⟩ ?_
      cases hF
      exact ⟨rfl, rfl, hL⟩
    · replace hF := br_T hc hF
      refine x_iconst (n := (-1)) (b := 15) dX11_votes_14 (by decide) rfl ?_
      refine x_ireturn dX11_votes_15 rfl ⟨Nat.le_refl _, Nat.le_refl _⟩ ?_
      cases hF
      exact ⟨rfl, rfl, hL⟩
set_option maxHeartbeats 4000000 in
set_option maxRecDepth 100000 in
theorem u_X11_votes (E : xE) (d : Nat) (r : Int × Hp) : ∀ n : Nat, (∀ (x1 : Int) (h : Hp), Lay h → g_X11_votes n 0 [x1] h = some r → X E mX11_votes (d + 6) (0, 0) (0, 0) 0 [some (xr 11 0), some (xi x1)] [] h (PoI r)) := by
  intro n
  induction n with
  | zero => exact fun _ _ _ hF => no_e (r := r) hF
  | succ n ih => exact fun x1 h hL hF => t_X11_votes_0 E d (g_X11_votes n) n r  x1 h hL hF
theorem c_X11_votes (d n : Nat) (x1 : Int) (h : Hp) (r : Int × Hp) (hL : Lay h) (hF : f_X11_votes n x1 h = some r) : Sp mX11_votes (d + 6) (0, 0) [xr 11 0, xi x1] h (PoI r) :=
  sp_of (by decide) rfl (Nat.le_of_ble_eq_true rfl) (ls := [some (xr 11 0), some (xi x1)]) rfl (fun E _ => (u_X11_votes E d r n) x1 h hL hF)
theorem dX2_hold_0 : decode cX2_hold 0 = .ok (.aload_n 0, 1) := by decide +kernel
theorem dX2_hold_1 : decode cX2_hold 1 = .ok (.iconst (-1), 1) := by decide +kernel
theorem dX2_hold_2 : decode cX2_hold 2 = .ok (.putfield 40, 3) := by decide +kernel
theorem dX2_hold_5 : decode cX2_hold 5 = .ok (.aload_n 0, 1) := by decide +kernel
theorem dX2_hold_6 : decode cX2_hold 6 = .ok (.aload_n 1, 1) := by decide +kernel
theorem dX2_hold_7 : decode cX2_hold 7 = .ok (.iload_n 2, 1) := by decide +kernel
theorem dX2_hold_8 : decode cX2_hold 8 = .ok (.invokevirtual 229, 3) := by decide +kernel
theorem dX2_hold_11 : decode cX2_hold 11 = .ok (.aload_n 0, 1) := by decide +kernel
theorem dX2_hold_12 : decode cX2_hold 12 = .ok (.aload_n 1, 1) := by decide +kernel
theorem dX2_hold_13 : decode cX2_hold 13 = .ok (.invokevirtual 233, 3) := by decide +kernel
theorem dX2_hold_16 : decode cX2_hold 16 = .ok (.aload_n 0, 1) := by decide +kernel
theorem dX2_hold_17 : decode cX2_hold 17 = .ok (.aload_n 1, 1) := by decide +kernel
theorem dX2_hold_18 : decode cX2_hold 18 = .ok (.invokevirtual 237, 3) := by decide +kernel
theorem dX2_hold_21 : decode cX2_hold 21 = .ok (.aload_n 0, 1) := by decide +kernel
theorem dX2_hold_22 : decode cX2_hold 22 = .ok (.aload_n 1, 1) := by decide +kernel
theorem dX2_hold_23 : decode cX2_hold 23 = .ok (.invokevirtual 240, 3) := by decide +kernel
theorem dX2_hold_26 : decode cX2_hold 26 = .ok (.istore_n 3, 1) := by decide +kernel
theorem dX2_hold_27 : decode cX2_hold 27 = .ok (.aload_n 0, 1) := by decide +kernel
theorem dX2_hold_28 : decode cX2_hold 28 = .ok (.aload_n 1, 1) := by decide +kernel
theorem dX2_hold_29 : decode cX2_hold 29 = .ok (.iload_n 3, 1) := by decide +kernel
theorem dX2_hold_30 : decode cX2_hold 30 = .ok (.invokevirtual 244, 3) := by decide +kernel
theorem dX2_hold_33 : decode cX2_hold 33 = .ok (.iload_n 3, 1) := by decide +kernel
theorem dX2_hold_34 : decode cX2_hold 34 = .ok (.ireturn, 1) := by decide +kernel
noncomputable def b_X2_hold_0 (rec : Rk) (n : Nat) (x1 x2 : Int) (h : Hp) : Option (Int × Hp) :=
  lt (sI h 2 0 10 (-1)) fun h1 =>
  bd (f_X2_serve n x1 x2 h1) fun v2 h3 =>
  bd (f_X2_poll n x1 h3) fun v4 h5 =>
  bd (f_X2_blow n x1 h5) fun v6 h7 =>
  bd (f_X2_winner n x1 h7) fun v8 h9 =>
  bd (f_X2_sail n x1 v8 h9) fun v10 h11 =>
  some (v8, h11)
noncomputable def g_X2_hold (n : Nat) : Rk := Nat.rec (motive := fun _ => Rk) (fun _ _ _ => none) (fun n rec k l h => if k = 0 then b_X2_hold_0 rec n (l.getD 0 0) (l.getD 1 0) h else none) n
noncomputable def f_X2_hold (n : Nat) (x1 x2 : Int) (h : Hp) : Option (Int × Hp) := g_X2_hold n 0 [x1, x2] h
set_option maxHeartbeats 4000000 in
set_option maxRecDepth 100000 in
theorem t_X2_hold_0 (E : xE) (d : Nat) (rec : Rk) (n : Nat) (r : Int × Hp) (x1 x2 : Int) (h : Hp) (hL : Lay h) (hF : b_X2_hold_0 rec n x1 x2 h = some r) : X E mX2_hold (d + 6) (0, 0) (0, 0) 0 [some (xr 2 0), some (xr 10 x1), some (xi x2), none] [] h (PoI r) := by
  unfold b_X2_hold_0 at hF
  refine x_aload_n (i := 0) (b := 1) dX2_hold_0 rfl rfl rfl ?_
  refine x_iconst (n := (-1)) (b := 2) dX2_hold_1 (by decide) rfl ?_
  refine x_putI (b := 5) fk_X2_40 dX2_hold_2 rfl rfl 10 rfl ?_
  obtain ⟨h1, e_h1, hF⟩ := lt_e hF
  refine x_hp (h2 := h1) e_h1 ?_
  replace hL : Lay h1 := by rw [← e_h1]; exact hL
  refine x_aload_n (i := 0) (b := 6) dX2_hold_5 rfl rfl rfl ?_
  refine x_aload_n (i := 1) (b := 7) dX2_hold_6 rfl rfl rfl ?_
  refine x_iload_n (i := 2) (b := 8) dX2_hold_7 rfl rfl rfl ?_
  obtain ⟨v2, h3, hq, hF⟩ := bd_e hF
  refine x_callV (as := [xr 10 x1, xi x2]) (rest := []) (b := 11) (c_X2_serve (d + 1) n x1 x2 h1 _ hL hq) dX2_hold_8 cw_X2_229 ⟨_, _, rfl, Nat.le_of_ble_eq_true rfl⟩ rfl rfl (Nat.le_of_ble_eq_true rfl) ⟨Nat.le_refl _, Nat.le_refl _⟩ rfl (fun rv hh hp _ => ?_)
  obtain ⟨rfl, rfl, hL⟩ := hp
  refine x_aload_n (i := 0) (b := 12) dX2_hold_11 rfl rfl rfl ?_
  refine x_aload_n (i := 1) (b := 13) dX2_hold_12 rfl rfl rfl ?_
  obtain ⟨v4, h5, hq, hF⟩ := bd_e hF
  refine x_callV (as := [xr 10 x1]) (rest := []) (b := 16) (c_X2_poll d n x1 h3 _ hL hq) dX2_hold_13 cw_X2_233 ⟨_, _, rfl, Nat.le_of_ble_eq_true rfl⟩ rfl rfl (Nat.le_of_ble_eq_true rfl) ⟨Nat.le_refl _, Nat.le_refl _⟩ rfl (fun rv hh hp _ => ?_)
  obtain ⟨rfl, rfl, hL⟩ := hp
  refine x_aload_n (i := 0) (b := 17) dX2_hold_16 rfl rfl rfl ?_
  refine x_aload_n (i := 1) (b := 18) dX2_hold_17 rfl rfl rfl ?_
  obtain ⟨v6, h7, hq, hF⟩ := bd_e hF
  refine x_callV (as := [xr 10 x1]) (rest := []) (b := 21) (c_X2_blow (d + 2) n x1 h5 _ hL hq) dX2_hold_18 cw_X2_237 ⟨_, _, rfl, Nat.le_of_ble_eq_true rfl⟩ rfl rfl (Nat.le_of_ble_eq_true rfl) ⟨Nat.le_refl _, Nat.le_refl _⟩ rfl (fun rv hh hp _ => ?_)
  obtain ⟨rfl, rfl, hL⟩ := hp
  refine x_aload_n (i := 0) (b := 22) dX2_hold_21 rfl rfl rfl ?_
  refine x_aload_n (i := 1) (b := 23) dX2_hold_22 rfl rfl rfl ?_
  obtain ⟨v8, h9, hq, hF⟩ := bd_e hF
  refine x_callV (as := [xr 10 x1]) (rest := []) (b := 26) (c_X2_winner (d + 3) n x1 h7 _ hL hq) dX2_hold_23 cw_X2_240 ⟨_, _, rfl, Nat.le_of_ble_eq_true rfl⟩ rfl rfl (Nat.le_of_ble_eq_true rfl) ⟨Nat.le_refl _, Nat.le_refl _⟩ rfl (fun rv hh hp _ => ?_)
  obtain ⟨rfl, rfl, hL⟩ := hp
  refine x_istore_n (i := 3) (b := 27) (ls2 := [some (xr 2 0), some (xr 10 x1), some (xi x2), some (xi v8)]) dX2_hold_26 rfl (Nat.le_of_ble_eq_true rfl) rfl rfl ?_
  refine x_aload_n (i := 0) (b := 28) dX2_hold_27 rfl rfl rfl ?_
  refine x_aload_n (i := 1) (b := 29) dX2_hold_28 rfl rfl rfl ?_
  refine x_iload_n (i := 3) (b := 30) dX2_hold_29 rfl rfl rfl ?_
  obtain ⟨v10, h11, hq, hF⟩ := bd_e hF
  refine x_callV (as := [xr 10 x1, xi v8]) (rest := []) (b := 33) (c_X2_sail (d + 1) n x1 v8 h9 _ hL hq) dX2_hold_30 cw_X2_244 ⟨_, _, rfl, Nat.le_of_ble_eq_true rfl⟩ rfl rfl (Nat.le_of_ble_eq_true rfl) ⟨Nat.le_refl _, Nat.le_refl _⟩ rfl (fun rv hh hp _ => ?_)
  obtain ⟨rfl, rfl, hL⟩ := hp
  refine x_iload_n (i := 3) (b := 34) dX2_hold_33 rfl rfl rfl ?_
  refine x_ireturn dX2_hold_34 rfl ⟨Nat.le_refl _, Nat.le_refl _⟩ ?_
  cases hF
  exact ⟨rfl, rfl, hL⟩
set_option maxHeartbeats 4000000 in
set_option maxRecDepth 100000 in
theorem u_X2_hold (E : xE) (d : Nat) (r : Int × Hp) : ∀ n : Nat, (∀ (x1 x2 : Int) (h : Hp), Lay h → g_X2_hold n 0 [x1, x2] h = some r → X E mX2_hold (d + 6) (0, 0) (0, 0) 0 [some (xr 2 0), some (xr 10 x1), some (xi x2), none] [] h (PoI r)) := by
  intro n
  induction n with
  | zero => exact fun _ _ _ _ hF => no_e (r := r) hF
  | succ n ih => exact fun x1 x2 h hL hF => t_X2_hold_0 E d (g_X2_hold n) n r  x1 x2 h hL hF
theorem c_X2_hold (d n : Nat) (x1 x2 : Int) (h : Hp) (r : Int × Hp) (hL : Lay h) (hF : f_X2_hold n x1 x2 h = some r) : Sp mX2_hold (d + 6) (0, 0) [xr 2 0, xr 10 x1, xi x2] h (PoI r) :=
  sp_of (by decide) rfl (Nat.le_of_ble_eq_true rfl) (ls := [some (xr 2 0), some (xr 10 x1), some (xi x2), none]) rfl (fun E _ => (u_X2_hold E d r n) x1 x2 h hL hF)
theorem dX7_readMouth_0 : decode cX7_readMouth 0 = .ok (.iload_n 1, 1) := by decide +kernel
theorem dX7_readMouth_1 : decode cX7_readMouth 1 = .ok (.bipush 11, 2) := by decide +kernel
theorem dX7_readMouth_3 : decode cX7_readMouth 3 = .ok (.if_icmp .ne 7, 3) := by decide +kernel
theorem dX7_readMouth_6 : decode cX7_readMouth 6 = .ok (.iconst 1, 1) := by decide +kernel
theorem dX7_readMouth_7 : decode cX7_readMouth 7 = .ok (.goto 4, 3) := by decide +kernel
theorem dX7_readMouth_10 : decode cX7_readMouth 10 = .ok (.iconst 0, 1) := by decide +kernel
theorem dX7_readMouth_11 : decode cX7_readMouth 11 = .ok (.istore_n 3, 1) := by decide +kernel
theorem dX7_readMouth_12 : decode cX7_readMouth 12 = .ok (.iload_n 3, 1) := by decide +kernel
theorem dX7_readMouth_13 : decode cX7_readMouth 13 = .ok (.ifCond .eq 17, 3) := by decide +kernel
theorem dX7_readMouth_16 : decode cX7_readMouth 16 = .ok (.aload_n 0, 1) := by decide +kernel
theorem dX7_readMouth_17 : decode cX7_readMouth 17 = .ok (.getfield 76, 3) := by decide +kernel
theorem dX7_readMouth_20 : decode cX7_readMouth 20 = .ok (.getfield 251, 3) := by decide +kernel
theorem dX7_readMouth_23 : decode cX7_readMouth 23 = .ok (.iconst 4, 1) := by decide +kernel
theorem dX7_readMouth_24 : decode cX7_readMouth 24 = .ok (.if_icmp .lt 24, 3) := by decide +kernel
theorem dX7_readMouth_27 : decode cX7_readMouth 27 = .ok (.goto 14, 3) := by decide +kernel
theorem dX7_readMouth_30 : decode cX7_readMouth 30 = .ok (.aload_n 0, 1) := by decide +kernel
theorem dX7_readMouth_31 : decode cX7_readMouth 31 = .ok (.getfield 76, 3) := by decide +kernel
theorem dX7_readMouth_34 : decode cX7_readMouth 34 = .ok (.getfield 254, 3) := by decide +kernel
theorem dX7_readMouth_37 : decode cX7_readMouth 37 = .ok (.iconst 5, 1) := by decide +kernel
theorem dX7_readMouth_38 : decode cX7_readMouth 38 = .ok (.if_icmp .lt 10, 3) := by decide +kernel
theorem dX7_readMouth_41 : decode cX7_readMouth 41 = .ok (.aload_n 0, 1) := by decide +kernel
theorem dX7_readMouth_42 : decode cX7_readMouth 42 = .ok (.iconst 2, 1) := by decide +kernel
theorem dX7_readMouth_43 : decode cX7_readMouth 43 = .ok (.iload_n 2, 1) := by decide +kernel
theorem dX7_readMouth_44 : decode cX7_readMouth 44 = .ok (.invokevirtual 149, 3) := by decide +kernel
theorem dX7_readMouth_47 : decode cX7_readMouth 47 = .ok (.ireturn, 1) := by decide +kernel
theorem dX7_readMouth_48 : decode cX7_readMouth 48 = .ok (.iload_n 3, 1) := by decide +kernel
theorem dX7_readMouth_49 : decode cX7_readMouth 49 = .ok (.ifCond .eq 15, 3) := by decide +kernel
theorem dX7_readMouth_52 : decode cX7_readMouth 52 = .ok (.iconst 5, 1) := by decide +kernel
theorem dX7_readMouth_53 : decode cX7_readMouth 53 = .ok (.aload_n 0, 1) := by decide +kernel
theorem dX7_readMouth_54 : decode cX7_readMouth 54 = .ok (.getfield 76, 3) := by decide +kernel
theorem dX7_readMouth_57 : decode cX7_readMouth 57 = .ok (.getfield 251, 3) := by decide +kernel
theorem dX7_readMouth_60 : decode cX7_readMouth 60 = .ok (.iadd, 1) := by decide +kernel
theorem dX7_readMouth_61 : decode cX7_readMouth 61 = .ok (.goto 10, 3) := by decide +kernel
theorem dX7_readMouth_64 : decode cX7_readMouth 64 = .ok (.aload_n 0, 1) := by decide +kernel
theorem dX7_readMouth_65 : decode cX7_readMouth 65 = .ok (.getfield 76, 3) := by decide +kernel
theorem dX7_readMouth_68 : decode cX7_readMouth 68 = .ok (.getfield 254, 3) := by decide +kernel
theorem dX7_readMouth_71 : decode cX7_readMouth 71 = .ok (.istore 4, 2) := by decide +kernel
theorem dX7_readMouth_73 : decode cX7_readMouth 73 = .ok (.aload_n 0, 1) := by decide +kernel
theorem dX7_readMouth_74 : decode cX7_readMouth 74 = .ok (.getfield 26, 3) := by decide +kernel
theorem dX7_readMouth_77 : decode cX7_readMouth 77 = .ok (.iconst 1, 1) := by decide +kernel
theorem dX7_readMouth_78 : decode cX7_readMouth 78 = .ok (.if_icmp .ne 15, 3) := by decide +kernel
theorem dX7_readMouth_81 : decode cX7_readMouth 81 = .ok (.iload 4, 2) := by decide +kernel
theorem dX7_readMouth_83 : decode cX7_readMouth 83 = .ok (.ifCond .lt 10, 3) := by decide +kernel
theorem dX7_readMouth_86 : decode cX7_readMouth 86 = .ok (.iload 4, 2) := by decide +kernel
theorem dX7_readMouth_88 : decode cX7_readMouth 88 = .ok (.bipush 9, 2) := by decide +kernel
theorem dX7_readMouth_90 : decode cX7_readMouth 90 = .ok (.if_icmp .lt 13, 3) := by decide +kernel
theorem dX7_readMouth_93 : decode cX7_readMouth 93 = .ok (.aload_n 0, 1) := by decide +kernel
theorem dX7_readMouth_94 : decode cX7_readMouth 94 = .ok (.iconst 1, 1) := by decide +kernel
theorem dX7_readMouth_95 : decode cX7_readMouth 95 = .ok (.aload_n 0, 1) := by decide +kernel
theorem dX7_readMouth_96 : decode cX7_readMouth 96 = .ok (.getfield 29, 3) := by decide +kernel
theorem dX7_readMouth_99 : decode cX7_readMouth 99 = .ok (.invokevirtual 149, 3) := by decide +kernel
theorem dX7_readMouth_102 : decode cX7_readMouth 102 = .ok (.ireturn, 1) := by decide +kernel
theorem dX7_readMouth_103 : decode cX7_readMouth 103 = .ok (.aload_n 0, 1) := by decide +kernel
theorem dX7_readMouth_104 : decode cX7_readMouth 104 = .ok (.aload_n 0, 1) := by decide +kernel
theorem dX7_readMouth_105 : decode cX7_readMouth 105 = .ok (.getfield 32, 3) := by decide +kernel
theorem dX7_readMouth_108 : decode cX7_readMouth 108 = .ok (.invokevirtual 257, 3) := by decide +kernel
theorem dX7_readMouth_111 : decode cX7_readMouth 111 = .ok (.ifCond .eq 13, 3) := by decide +kernel
theorem dX7_readMouth_114 : decode cX7_readMouth 114 = .ok (.aload_n 0, 1) := by decide +kernel
theorem dX7_readMouth_115 : decode cX7_readMouth 115 = .ok (.iconst 3, 1) := by decide +kernel
theorem dX7_readMouth_116 : decode cX7_readMouth 116 = .ok (.aload_n 0, 1) := by decide +kernel
theorem dX7_readMouth_117 : decode cX7_readMouth 117 = .ok (.getfield 29, 3) := by decide +kernel
theorem dX7_readMouth_120 : decode cX7_readMouth 120 = .ok (.invokevirtual 149, 3) := by decide +kernel
theorem dX7_readMouth_123 : decode cX7_readMouth 123 = .ok (.ireturn, 1) := by decide +kernel
theorem dX7_readMouth_124 : decode cX7_readMouth 124 = .ok (.aload_n 0, 1) := by decide +kernel
theorem dX7_readMouth_125 : decode cX7_readMouth 125 = .ok (.getfield 76, 3) := by decide +kernel
theorem dX7_readMouth_128 : decode cX7_readMouth 128 = .ok (.getfield 260, 3) := by decide +kernel
theorem dX7_readMouth_131 : decode cX7_readMouth 131 = .ok (.iload 4, 2) := by decide +kernel
theorem dX7_readMouth_133 : decode cX7_readMouth 133 = .ok (.aaload, 1) := by decide +kernel
theorem dX7_readMouth_134 : decode cX7_readMouth 134 = .ok (.astore 5, 2) := by decide +kernel
theorem dX7_readMouth_136 : decode cX7_readMouth 136 = .ok (.aload 5, 2) := by decide +kernel
theorem dX7_readMouth_138 : decode cX7_readMouth 138 = .ok (.aload_n 0, 1) := by decide +kernel
theorem dX7_readMouth_139 : decode cX7_readMouth 139 = .ok (.getfield 32, 3) := by decide +kernel
theorem dX7_readMouth_142 : decode cX7_readMouth 142 = .ok (.invokevirtual 264, 3) := by decide +kernel
theorem dX7_readMouth_145 : decode cX7_readMouth 145 = .ok (.aload_n 0, 1) := by decide +kernel
theorem dX7_readMouth_146 : decode cX7_readMouth 146 = .ok (.invokevirtual 89, 3) := by decide +kernel
theorem dX7_readMouth_149 : decode cX7_readMouth 149 = .ok (.aload_n 0, 1) := by decide +kernel
theorem dX7_readMouth_150 : decode cX7_readMouth 150 = .ok (.iconst 0, 1) := by decide +kernel
theorem dX7_readMouth_151 : decode cX7_readMouth 151 = .ok (.bipush 9, 2) := by decide +kernel
theorem dX7_readMouth_153 : decode cX7_readMouth 153 = .ok (.invokevirtual 167, 3) := by decide +kernel
theorem dX7_readMouth_156 : decode cX7_readMouth 156 = .ok (.ifCond .ne 5, 3) := by decide +kernel
theorem dX7_readMouth_159 : decode cX7_readMouth 159 = .ok (.iconst 0, 1) := by decide +kernel
theorem dX7_readMouth_160 : decode cX7_readMouth 160 = .ok (.ireturn, 1) := by decide +kernel
theorem dX7_readMouth_161 : decode cX7_readMouth 161 = .ok (.aload 5, 2) := by decide +kernel
theorem dX7_readMouth_163 : decode cX7_readMouth 163 = .ok (.aload_n 0, 1) := by decide +kernel
theorem dX7_readMouth_164 : decode cX7_readMouth 164 = .ok (.getfield 41, 3) := by decide +kernel
theorem dX7_readMouth_167 : decode cX7_readMouth 167 = .ok (.putfield 269, 3) := by decide +kernel
theorem dX7_readMouth_170 : decode cX7_readMouth 170 = .ok (.iload_n 3, 1) := by decide +kernel
theorem dX7_readMouth_171 : decode cX7_readMouth 171 = .ok (.ifCond .eq 12, 3) := by decide +kernel
theorem dX7_readMouth_174 : decode cX7_readMouth 174 = .ok (.aload_n 0, 1) := by decide +kernel
theorem dX7_readMouth_175 : decode cX7_readMouth 175 = .ok (.aload 5, 2) := by decide +kernel
theorem dX7_readMouth_177 : decode cX7_readMouth 177 = .ok (.invokevirtual 272, 3) := by decide +kernel
theorem dX7_readMouth_180 : decode cX7_readMouth 180 = .ok (.ifCond .eq 21, 3) := by decide +kernel
theorem dX7_readMouth_183 : decode cX7_readMouth 183 = .ok (.aload_n 0, 1) := by decide +kernel
theorem dX7_readMouth_184 : decode cX7_readMouth 184 = .ok (.aload 5, 2) := by decide +kernel
theorem dX7_readMouth_186 : decode cX7_readMouth 186 = .ok (.invokevirtual 276, 3) := by decide +kernel
theorem dX7_readMouth_189 : decode cX7_readMouth 189 = .ok (.ifCond .eq 12, 3) := by decide +kernel
theorem dX7_readMouth_192 : decode cX7_readMouth 192 = .ok (.aload_n 0, 1) := by decide +kernel
theorem dX7_readMouth_193 : decode cX7_readMouth 193 = .ok (.aload 5, 2) := by decide +kernel
theorem dX7_readMouth_195 : decode cX7_readMouth 195 = .ok (.invokevirtual 279, 3) := by decide +kernel
theorem dX7_readMouth_198 : decode cX7_readMouth 198 = .ok (.ifCond .ne 5, 3) := by decide +kernel
theorem dX7_readMouth_201 : decode cX7_readMouth 201 = .ok (.iconst 0, 1) := by decide +kernel
theorem dX7_readMouth_202 : decode cX7_readMouth 202 = .ok (.ireturn, 1) := by decide +kernel
theorem dX7_readMouth_203 : decode cX7_readMouth 203 = .ok (.aload_n 0, 1) := by decide +kernel
theorem dX7_readMouth_204 : decode cX7_readMouth 204 = .ok (.getfield 76, 3) := by decide +kernel
theorem dX7_readMouth_207 : decode cX7_readMouth 207 = .ok (.dup, 1) := by decide +kernel
theorem dX7_readMouth_208 : decode cX7_readMouth 208 = .ok (.getfield 251, 3) := by decide +kernel
theorem dX7_readMouth_211 : decode cX7_readMouth 211 = .ok (.iload_n 3, 1) := by decide +kernel
theorem dX7_readMouth_212 : decode cX7_readMouth 212 = .ok (.ifCond .eq 7, 3) := by decide +kernel
theorem dX7_readMouth_215 : decode cX7_readMouth 215 = .ok (.iconst 1, 1) := by decide +kernel
theorem dX7_readMouth_216 : decode cX7_readMouth 216 = .ok (.goto 4, 3) := by decide +kernel
theorem dX7_readMouth_219 : decode cX7_readMouth 219 = .ok (.iconst 0, 1) := by decide +kernel
theorem dX7_readMouth_220 : decode cX7_readMouth 220 = .ok (.iadd, 1) := by decide +kernel
theorem dX7_readMouth_221 : decode cX7_readMouth 221 = .ok (.putfield 251, 3) := by decide +kernel
theorem dX7_readMouth_224 : decode cX7_readMouth 224 = .ok (.aload_n 0, 1) := by decide +kernel
theorem dX7_readMouth_225 : decode cX7_readMouth 225 = .ok (.getfield 76, 3) := by decide +kernel
theorem dX7_readMouth_228 : decode cX7_readMouth 228 = .ok (.dup, 1) := by decide +kernel
theorem dX7_readMouth_229 : decode cX7_readMouth 229 = .ok (.getfield 254, 3) := by decide +kernel
theorem dX7_readMouth_232 : decode cX7_readMouth 232 = .ok (.iload_n 3, 1) := by decide +kernel
theorem dX7_readMouth_233 : decode cX7_readMouth 233 = .ok (.ifCond .eq 7, 3) := by decide +kernel
theorem dX7_readMouth_236 : decode cX7_readMouth 236 = .ok (.iconst 0, 1) := by decide +kernel
theorem dX7_readMouth_237 : decode cX7_readMouth 237 = .ok (.goto 4, 3) := by decide +kernel
theorem dX7_readMouth_240 : decode cX7_readMouth 240 = .ok (.iconst 1, 1) := by decide +kernel
theorem dX7_readMouth_241 : decode cX7_readMouth 241 = .ok (.iadd, 1) := by decide +kernel
theorem dX7_readMouth_242 : decode cX7_readMouth 242 = .ok (.putfield 254, 3) := by decide +kernel
theorem dX7_readMouth_245 : decode cX7_readMouth 245 = .ok (.iconst 1, 1) := by decide +kernel
theorem dX7_readMouth_246 : decode cX7_readMouth 246 = .ok (.ireturn, 1) := by decide +kernel
noncomputable def b_X7_readMouth_0 (rec : Rk) (n : Nat) (x1 x2 : Int) (h : Hp) : Option (Int × Hp) :=
  if x1 = 11 then (
    rec 1 [x2, 1] h
  ) else (
    rec 1 [x2, 0] h
  )
noncomputable def b_X7_readMouth_1 (rec : Rk) (n : Nat) (x2 y0 : Int) (h : Hp) : Option (Int × Hp) :=
  if y0 = 0 then (
    rf (gR h 7 0 1) 0 fun j1 =>
    if (gI h 0 j1 3) < 5 then (
      rec 3 [y0] h
    ) else (
      rec 2 [x2] h
    )
  ) else (
    rf (gR h 7 0 1) 0 fun j2 =>
    if (gI h 0 j2 4) < 4 then (
      rec 3 [y0] h
    ) else (
      rec 2 [x2] h
    )
  )
noncomputable def b_X7_readMouth_2 (rec : Rk) (n : Nat) (x2 : Int) (h : Hp) : Option (Int × Hp) :=
  bd (f_X7_wrong n 2 x2 h) fun v1 h2 =>
  ck (0 ≤ v1 ∧ v1 < 2) <|
  some (v1, h2)
noncomputable def b_X7_readMouth_3 (rec : Rk) (n : Nat) (x3 : Int) (h : Hp) : Option (Int × Hp) :=
  if x3 = 0 then (
    rf (gR h 7 0 1) 0 fun j1 =>
    rec 4 [x3, gI h 0 j1 3] h
  ) else (
    rf (gR h 7 0 1) 0 fun j2 =>
    ck (-2147483648 ≤ 5 + (gI h 0 j2 4) ∧ 5 + (gI h 0 j2 4) < 2147483648) <|
    rec 4 [x3, 5 + (gI h 0 j2 4)] h
  )
noncomputable def b_X7_readMouth_4 (rec : Rk) (n : Nat) (x3 y0 : Int) (h : Hp) : Option (Int × Hp) :=
  if (gI h 7 0 6) = 1 then (
    if y0 < 0 then (
      rec 5 [] h
    ) else (
      if y0 < 9 then (
        bd (f_X7_isCrewName n (gI h 7 0 8) h) fun v1 h2 =>
        if v1 = 0 then (
          rf (gR h2 7 0 1) 0 fun j3 =>
          ck (0 ≤ y0 ∧ y0 < 9) <|
          rf (gR h2 20 j3 y0) 4 fun j4 =>
          bd (f_X4_begin n j4 (gI h2 7 0 8) h2) fun v5 h6 =>
          bd (f_X7_advance n h6) fun v7 h8 =>
          bd (f_X7_readNumber n 0 9 h8) fun v9 h10 =>
          if v9 = 0 then (
            some (0, h10)
          ) else (
            lt (sI h10 4 j4 1 (gI h10 7 0 11)) fun h11 =>
            if x3 = 0 then (
              rec 6 [x3, j4] h11
            ) else (
              bd (f_X7_readOdds n j4 h11) fun v12 h13 =>
              if v12 = 0 then (
                some (0, h13)
              ) else (
                rec 6 [x3, j4] h13
              )
            )
          )
        ) else (
          bd (f_X7_wrong n 3 (gI h2 7 0 7) h2) fun v14 h15 =>
          ck (0 ≤ v14 ∧ v14 < 2) <|
          some (v14, h15)
        )
      ) else (
        rec 5 [] h
      )
    )
  ) else (
    rec 5 [] h
  )
noncomputable def b_X7_readMouth_5 (rec : Rk) (n : Nat) (h : Hp) : Option (Int × Hp) :=
  bd (f_X7_wrong n 1 (gI h 7 0 7) h) fun v1 h2 =>
  ck (0 ≤ v1 ∧ v1 < 2) <|
  some (v1, h2)
noncomputable def b_X7_readMouth_6 (rec : Rk) (n : Nat) (x3 x5 : Int) (h : Hp) : Option (Int × Hp) :=
  bd (f_X7_readRest n x5 h) fun v1 h2 =>
  if v1 = 0 then (
    some (0, h2)
  ) else (
    bd (f_X7_readExpression n x5 h2) fun v3 h4 =>
    if v3 = 0 then (
      some (0, h4)
    ) else (
      rf (gR h4 7 0 1) 0 fun j5 =>
      if x3 = 0 then (
        rec 7 [x3, 0, gI h4 0 j5 4, j5] h4
      ) else (
        rec 7 [x3, 1, gI h4 0 j5 4, j5] h4
      )
    )
  )
noncomputable def b_X7_readMouth_7 (rec : Rk) (n : Nat) (x3 y0 y1 y2 : Int) (h : Hp) : Option (Int × Hp) :=
  ck (-2147483648 ≤ y1 + y0 ∧ y1 + y0 < 2147483648) <|
  lt (sI h 0 y2 4 (y1 + y0)) fun h1 =>
  rf (gR h1 7 0 1) 0 fun j2 =>
  if x3 = 0 then (
    ck (-2147483648 ≤ (gI h1 0 j2 3) + 1 ∧ (gI h1 0 j2 3) + 1 < 2147483648) <|
    lt (sI h1 0 j2 3 ((gI h1 0 j2 3) + 1)) fun h3 =>
    some (1, h3)
  ) else (
    ck (-2147483648 ≤ (gI h1 0 j2 3) + 0 ∧ (gI h1 0 j2 3) + 0 < 2147483648) <|
    lt (sI h1 0 j2 3 ((gI h1 0 j2 3) + 0)) fun h4 =>
    some (1, h4)
  )
noncomputable def g_X7_readMouth (n : Nat) : Rk := Nat.rec (motive := fun _ => Rk) (fun _ _ _ => none) (fun n rec k l h => if k = 0 then b_X7_readMouth_0 rec n (l.getD 0 0) (l.getD 1 0) h else if k = 1 then b_X7_readMouth_1 rec n (l.getD 0 0) (l.getD 1 0) h else if k = 2 then b_X7_readMouth_2 rec n (l.getD 0 0) h else if k = 3 then b_X7_readMouth_3 rec n (l.getD 0 0) h else if k = 4 then b_X7_readMouth_4 rec n (l.getD 0 0) (l.getD 1 0) h else if k = 5 then b_X7_readMouth_5 rec n  h else if k = 6 then b_X7_readMouth_6 rec n (l.getD 0 0) (l.getD 1 0) h else if k = 7 then b_X7_readMouth_7 rec n (l.getD 0 0) (l.getD 1 0) (l.getD 2 0) (l.getD 3 0) h else none) n
noncomputable def f_X7_readMouth (n : Nat) (x1 x2 : Int) (h : Hp) : Option (Int × Hp) := g_X7_readMouth n 0 [x1, x2] h
set_option maxHeartbeats 4000000 in
set_option maxRecDepth 100000 in
theorem t_X7_readMouth_0 (E : xE) (d : Nat) (rec : Rk) (n : Nat) (r : Int × Hp) (hr_11 : ∀ (x2 y0 : Int) (h : Hp), Lay h → rec 1 [x2, y0] h = some r → X E mX7_readMouth (d + 5) (0, 0) (0, 0) 11 [some (xr 7 0), none, some (xi x2), none, none, none] [xi y0] h (PoI r)) (x1 x2 : Int) (h : Hp) (hL : Lay h) (hF : b_X7_readMouth_0 rec n x1 x2 h = some r) : X E mX7_readMouth (d + 5) (0, 0) (0, 0) 0 [some (xr 7 0), some (xi x1), some (xi x2), none, none, none] [] h (PoI r) := by
  unfold b_X7_readMouth_0 at hF
  refine x_iload_n (i := 1) (b := 1) dX7_readMouth_0 rfl rfl rfl ?_
  refine x_bipush (n := 11) (b := 3) dX7_readMouth_1 (by decide) rfl ?_
  refine x_icmp_ne (tgt := 10) (b := 6) dX7_readMouth_3 (by decide) rfl (fun hc => ?_) (fun hc => ?_)
  · replace hF := br_F hc hF
    refine x_iconst (n := 0) (b := 11) dX7_readMouth_10 (by decide) rfl ?_
    exact x_dp (ls2 := [some (xr 7 0), none, some (xi x2), none, none, none]) ⟨rfl, rfl, trivial⟩ (hr_11 x2 0 h hL hF)
  · replace hF := br_T hc hF
    refine x_iconst (n := 1) (b := 7) dX7_readMouth_6 (by decide) rfl ?_
    refine x_goto (tgt := 11) dX7_readMouth_7 (by decide) ?_
    exact x_dp (ls2 := [some (xr 7 0), none, some (xi x2), none, none, none]) ⟨rfl, rfl, trivial⟩ (hr_11 x2 1 h hL hF)
set_option maxHeartbeats 4000000 in
set_option maxRecDepth 100000 in
theorem t_X7_readMouth_1 (E : xE) (d : Nat) (rec : Rk) (n : Nat) (r : Int × Hp) (hr_41 : ∀ (x2 : Int) (h : Hp), Lay h → rec 2 [x2] h = some r → X E mX7_readMouth (d + 5) (0, 0) (0, 0) 41 [some (xr 7 0), none, some (xi x2), none, none, none] [] h (PoI r)) (hr_48 : ∀ (x3 : Int) (h : Hp), Lay h → rec 3 [x3] h = some r → X E mX7_readMouth (d + 5) (0, 0) (0, 0) 48 [some (xr 7 0), none, none, some (xi x3), none, none] [] h (PoI r)) (x2 y0 : Int) (h : Hp) (hL : Lay h) (hF : b_X7_readMouth_1 rec n x2 y0 h = some r) : X E mX7_readMouth (d + 5) (0, 0) (0, 0) 11 [some (xr 7 0), none, some (xi x2), none, none, none] [xi y0] h (PoI r) := by
  unfold b_X7_readMouth_1 at hF
  refine x_istore_n (i := 3) (b := 12) (ls2 := [some (xr 7 0), none, some (xi x2), some (xi y0), none, none]) dX7_readMouth_11 rfl (Nat.le_of_ble_eq_true rfl) rfl rfl ?_
  refine x_iload_n (i := 3) (b := 13) dX7_readMouth_12 rfl rfl rfl ?_
  refine x_if_eq (tgt := 30) (b := 16) dX7_readMouth_13 (by decide) rfl (fun hc => ?_) (fun hc => ?_)
  · replace hF := br_T hc hF
    refine x_aload_n (i := 0) (b := 31) dX7_readMouth_30 rfl rfl rfl ?_
    obtain ⟨j1, e_j1, hF⟩ := rf_e hF
    refine x_getR (v := some (0, j1)) (b := 34) fk_X7_76 dX7_readMouth_31 rfl e_j1 rfl ?_
    refine x_getI (v := gI h 0 j1 3) (b := 37) fk_X7_254 dX7_readMouth_34 (by decide) rfl rfl ?_
    refine x_iconst (n := 5) (b := 38) dX7_readMouth_37 (by decide) rfl ?_
    refine x_icmp_lt (tgt := 48) (b := 41) dX7_readMouth_38 (by decide) rfl (fun hc => ?_) (fun hc => ?_)
    · replace hF := br_T hc hF
      exact x_dp (ls2 := [some (xr 7 0), none, none, some (xi y0), none, none]) ⟨rfl, rfl, trivial⟩ (hr_48 y0 h hL hF)
    · replace hF := br_F hc hF
      exact x_dp (ls2 := [some (xr 7 0), none, some (xi x2), none, none, none]) ⟨rfl, rfl, trivial⟩ (hr_41 x2 h hL hF)
  · replace hF := br_F hc hF
    refine x_aload_n (i := 0) (b := 17) dX7_readMouth_16 rfl rfl rfl ?_
    obtain ⟨j2, e_j2, hF⟩ := rf_e hF
    refine x_getR (v := some (0, j2)) (b := 20) fk_X7_76 dX7_readMouth_17 rfl e_j2 rfl ?_
    refine x_getI (v := gI h 0 j2 4) (b := 23) fk_X7_251 dX7_readMouth_20 (by decide) rfl rfl ?_
    refine x_iconst (n := 4) (b := 24) dX7_readMouth_23 (by decide) rfl ?_
    refine x_icmp_lt (tgt := 48) (b := 27) dX7_readMouth_24 (by decide) rfl (fun hc => ?_) (fun hc => ?_)
    · replace hF := br_T hc hF
      exact x_dp (ls2 := [some (xr 7 0), none, none, some (xi y0), none, none]) ⟨rfl, rfl, trivial⟩ (hr_48 y0 h hL hF)
    · replace hF := br_F hc hF
      refine x_goto (tgt := 41) dX7_readMouth_27 (by decide) ?_
      exact x_dp (ls2 := [some (xr 7 0), none, some (xi x2), none, none, none]) ⟨rfl, rfl, trivial⟩ (hr_41 x2 h hL hF)
set_option maxHeartbeats 4000000 in
set_option maxRecDepth 100000 in
theorem t_X7_readMouth_2 (E : xE) (d : Nat) (rec : Rk) (n : Nat) (r : Int × Hp) (x2 : Int) (h : Hp) (hL : Lay h) (hF : b_X7_readMouth_2 rec n x2 h = some r) : X E mX7_readMouth (d + 5) (0, 0) (0, 0) 41 [some (xr 7 0), none, some (xi x2), none, none, none] [] h (PoI r) := by
  unfold b_X7_readMouth_2 at hF
  refine x_aload_n (i := 0) (b := 42) dX7_readMouth_41 rfl rfl rfl ?_
  refine x_iconst (n := 2) (b := 43) dX7_readMouth_42 (by decide) rfl ?_
  refine x_iload_n (i := 2) (b := 44) dX7_readMouth_43 rfl rfl rfl ?_
  obtain ⟨v1, h2, hq, hF⟩ := bd_e hF
  refine x_callV (as := [xi 2, xi x2]) (rest := []) (b := 47) (c_X7_wrong (d + 3) n 2 x2 h _ hL hq) dX7_readMouth_44 cw_X7_149 ⟨_, _, rfl, Nat.le_of_ble_eq_true rfl⟩ rfl rfl (Nat.le_of_ble_eq_true rfl) ⟨Nat.le_refl _, Nat.le_refl _⟩ rfl (fun rv hh hp _ => ?_)
  obtain ⟨rfl, rfl, hL⟩ := hp
  obtain ⟨hs, hF⟩ := ck_e hF
  refine x_zreturn dX7_readMouth_47 rfl ⟨Nat.le_refl _, Nat.le_refl _⟩ hs ?_
  cases hF
  exact ⟨rfl, rfl, hL⟩
set_option maxHeartbeats 4000000 in
set_option maxRecDepth 100000 in
theorem t_X7_readMouth_3 (E : xE) (d : Nat) (rec : Rk) (n : Nat) (r : Int × Hp) (hr_71 : ∀ (x3 y0 : Int) (h : Hp), Lay h → rec 4 [x3, y0] h = some r → X E mX7_readMouth (d + 5) (0, 0) (0, 0) 71 [some (xr 7 0), none, none, some (xi x3), none, none] [xi y0] h (PoI r)) (x3 : Int) (h : Hp) (hL : Lay h) (hF : b_X7_readMouth_3 rec n x3 h = some r) : X E mX7_readMouth (d + 5) (0, 0) (0, 0) 48 [some (xr 7 0), none, none, some (xi x3), none, none] [] h (PoI r) := by
  unfold b_X7_readMouth_3 at hF
  refine x_iload_n (i := 3) (b := 49) dX7_readMouth_48 rfl rfl rfl ?_
  refine x_if_eq (tgt := 64) (b := 52) dX7_readMouth_49 (by decide) rfl (fun hc => ?_) (fun hc => ?_)
  · replace hF := br_T hc hF
    refine x_aload_n (i := 0) (b := 65) dX7_readMouth_64 rfl rfl rfl ?_
    obtain ⟨j1, e_j1, hF⟩ := rf_e hF
    refine x_getR (v := some (0, j1)) (b := 68) fk_X7_76 dX7_readMouth_65 rfl e_j1 rfl ?_
    refine x_getI (v := gI h 0 j1 3) (b := 71) fk_X7_254 dX7_readMouth_68 (by decide) rfl rfl ?_
    exact x_dp (ls2 := [some (xr 7 0), none, none, some (xi x3), none, none]) ⟨rfl, rfl, trivial⟩ (hr_71 x3 (gI h 0 j1 3) h hL hF)
  · replace hF := br_F hc hF
    refine x_iconst (n := 5) (b := 53) dX7_readMouth_52 (by decide) rfl ?_
    refine x_aload_n (i := 0) (b := 54) dX7_readMouth_53 rfl rfl rfl ?_
    obtain ⟨j2, e_j2, hF⟩ := rf_e hF
    refine x_getR (v := some (0, j2)) (b := 57) fk_X7_76 dX7_readMouth_54 rfl e_j2 rfl ?_
    refine x_getI (v := gI h 0 j2 4) (b := 60) fk_X7_251 dX7_readMouth_57 (by decide) rfl rfl ?_
    obtain ⟨hs, hF⟩ := ck_e hF
    refine x_iadd (b := 61) dX7_readMouth_60 hs rfl ?_
    refine x_goto (tgt := 71) dX7_readMouth_61 (by decide) ?_
    exact x_dp (ls2 := [some (xr 7 0), none, none, some (xi x3), none, none]) ⟨rfl, rfl, trivial⟩ (hr_71 x3 (5 + (gI h 0 j2 4)) h hL hF)
set_option maxHeartbeats 4000000 in
set_option maxRecDepth 100000 in
theorem t_X7_readMouth_4 (E : xE) (d : Nat) (rec : Rk) (n : Nat) (r : Int × Hp) (hr_93 : ∀ (h : Hp), Lay h → rec 5 [] h = some r → X E mX7_readMouth (d + 5) (0, 0) (0, 0) 93 [some (xr 7 0), none, none, none, none, none] [] h (PoI r)) (hr_183 : ∀ (x3 x5 : Int) (h : Hp), Lay h → rec 6 [x3, x5] h = some r → X E mX7_readMouth (d + 5) (0, 0) (0, 0) 183 [some (xr 7 0), none, none, some (xi x3), none, some (xr 4 x5)] [] h (PoI r)) (x3 y0 : Int) (h : Hp) (hL : Lay h) (hF : b_X7_readMouth_4 rec n x3 y0 h = some r) : X E mX7_readMouth (d + 5) (0, 0) (0, 0) 71 [some (xr 7 0), none, none, some (xi x3), none, none] [xi y0] h (PoI r) := by
  unfold b_X7_readMouth_4 at hF
  refine x_istore (i := 4) (b := 73) (ls2 := [some (xr 7 0), none, none, some (xi x3), some (xi y0), none]) dX7_readMouth_71 (Nat.le_of_ble_eq_true rfl) rfl rfl ?_
  refine x_aload_n (i := 0) (b := 74) dX7_readMouth_73 rfl rfl rfl ?_
  refine x_getI (v := gI h 7 0 6) (b := 77) fk_X7_26 dX7_readMouth_74 (by decide) rfl rfl ?_
  refine x_iconst (n := 1) (b := 78) dX7_readMouth_77 (by decide) rfl ?_
  refine x_icmp_ne (tgt := 93) (b := 81) dX7_readMouth_78 (by decide) rfl (fun hc => ?_) (fun hc => ?_)
  · replace hF := br_F hc hF
    exact x_dp (ls2 := [some (xr 7 0), none, none, none, none, none]) ⟨rfl, trivial⟩ (hr_93  h hL hF)
  · replace hF := br_T hc hF
    refine x_iload (i := 4) (b := 83) dX7_readMouth_81 rfl rfl ?_
    refine x_if_lt (tgt := 93) (b := 86) dX7_readMouth_83 (by decide) rfl (fun hc => ?_) (fun hc => ?_)
    · replace hF := br_T hc hF
      exact x_dp (ls2 := [some (xr 7 0), none, none, none, none, none]) ⟨rfl, trivial⟩ (hr_93  h hL hF)
    · replace hF := br_F hc hF
      refine x_iload (i := 4) (b := 88) dX7_readMouth_86 rfl rfl ?_
      refine x_bipush (n := 9) (b := 90) dX7_readMouth_88 (by decide) rfl ?_
      refine x_icmp_lt (tgt := 103) (b := 93) dX7_readMouth_90 (by decide) rfl (fun hc => ?_) (fun hc => ?_)
      · replace hF := br_T hc hF
        refine x_aload_n (i := 0) (b := 104) dX7_readMouth_103 rfl rfl rfl ?_
        refine x_aload_n (i := 0) (b := 105) dX7_readMouth_104 rfl rfl rfl ?_
        refine x_getI (v := gI h 7 0 8) (b := 108) fk_X7_32 dX7_readMouth_105 (by decide) rfl rfl ?_
        obtain ⟨v1, h2, hq, hF⟩ := bd_e hF
        refine x_callV (as := [xi (gI h 7 0 8)]) (rest := []) (b := 111) (c_X7_isCrewName (d + 3) n (gI h 7 0 8) h _ hL hq) dX7_readMouth_108 cw_X7_257 ⟨_, _, rfl, Nat.le_of_ble_eq_true rfl⟩ rfl rfl (Nat.le_of_ble_eq_true rfl) ⟨Nat.le_refl _, Nat.le_refl _⟩ rfl (fun rv hh hp _ => ?_)
        obtain ⟨rfl, rfl, hL⟩ := hp
        refine x_if_eq (tgt := 124) (b := 114) dX7_readMouth_111 (by decide) rfl (fun hc => ?_) (fun hc => ?_)
        · replace hF := br_T hc hF
          refine x_aload_n (i := 0) (b := 125) dX7_readMouth_124 rfl rfl rfl ?_
          obtain ⟨j3, e_j3, hF⟩ := rf_e hF
          refine x_getR (v := some (0, j3)) (b := 128) fk_X7_76 dX7_readMouth_125 rfl e_j3 rfl ?_
          refine x_getL (j := j3) (t := (20, 0, true)) (b := 131) fk_X7_260 dX7_readMouth_128 rfl hL rfl rfl rfl ?_
          refine x_iload (i := 4) (b := 133) dX7_readMouth_131 rfl rfl ?_
          obtain ⟨hs, hF⟩ := ck_e hF
          obtain ⟨j4, e_j4, hF⟩ := rf_e hF
          refine x_aaldM (v := some (4, j4)) (b := 134) ak_20 dX7_readMouth_133 hs e_j4 rfl ?_
          refine x_astore (i := 5) (b := 136) (ls2 := [some (xr 7 0), none, none, some (xi x3), some (xi y0), some (xr 4 j4)]) dX7_readMouth_134 (Nat.le_of_ble_eq_true rfl) rfl rfl ?_
          refine x_aload (i := 5) (b := 138) dX7_readMouth_136 rfl rfl ?_
          refine x_aload_n (i := 0) (b := 139) dX7_readMouth_138 rfl rfl rfl ?_
          refine x_getI (v := gI h2 7 0 8) (b := 142) fk_X7_32 dX7_readMouth_139 (by decide) rfl rfl ?_
          obtain ⟨v5, h6, hq, hF⟩ := bd_e hF
          refine x_callV (as := [xi (gI h2 7 0 8)]) (rest := []) (b := 145) (c_X4_begin (d + 3) n j4 (gI h2 7 0 8) h2 _ hL hq) dX7_readMouth_142 cw_X7_264 ⟨_, _, rfl, Nat.le_of_ble_eq_true rfl⟩ rfl rfl (Nat.le_of_ble_eq_true rfl) ⟨Nat.le_refl _, Nat.le_refl _⟩ rfl (fun rv hh hp _ => ?_)
          obtain ⟨rfl, rfl, hL⟩ := hp
          refine x_aload_n (i := 0) (b := 146) dX7_readMouth_145 rfl rfl rfl ?_
          obtain ⟨v7, h8, hq, hF⟩ := bd_e hF
          refine x_callV (as := []) (rest := []) (b := 149) (c_X7_advance (d + 3) n h6 _ hL hq) dX7_readMouth_146 cw_X7_89 ⟨_, _, rfl, Nat.le_of_ble_eq_true rfl⟩ rfl rfl (Nat.le_of_ble_eq_true rfl) ⟨Nat.le_refl _, Nat.le_refl _⟩ rfl (fun rv hh hp _ => ?_)
          obtain ⟨rfl, rfl, hL⟩ := hp
          refine x_aload_n (i := 0) (b := 150) dX7_readMouth_149 rfl rfl rfl ?_
          refine x_iconst (n := 0) (b := 151) dX7_readMouth_150 (by decide) rfl ?_
          refine x_bipush (n := 9) (b := 153) dX7_readMouth_151 (by decide) rfl ?_
          obtain ⟨v9, h10, hq, hF⟩ := bd_e hF
          refine x_callV (as := [xi 0, xi 9]) (rest := []) (b := 156) (c_X7_readNumber (d + 2) n 0 9 h8 _ hL hq) dX7_readMouth_153 cw_X7_167 ⟨_, _, rfl, Nat.le_of_ble_eq_true rfl⟩ rfl rfl (Nat.le_of_ble_eq_true rfl) ⟨Nat.le_refl _, Nat.le_refl _⟩ rfl (fun rv hh hp _ => ?_)
          obtain ⟨rfl, rfl, hL⟩ := hp
          refine x_if_ne (tgt := 161) (b := 159) dX7_readMouth_156 (by decide) rfl (fun hc => ?_) (fun hc => ?_)
          · replace hF := br_F hc hF
            refine x_aload (i := 5) (b := 163) dX7_readMouth_161 rfl rfl ?_
            refine x_aload_n (i := 0) (b := 164) dX7_readMouth_163 rfl rfl rfl ?_
            refine x_getI (v := gI h10 7 0 11) (b := 167) fk_X7_41 dX7_readMouth_164 (by decide) rfl rfl ?_
            refine x_putI (b := 170) fk_X7_269 dX7_readMouth_167 rfl rfl 1 rfl ?_
            obtain ⟨h11, e_h11, hF⟩ := lt_e hF
            refine x_hp (h2 := h11) e_h11 ?_
            replace hL : Lay h11 := by rw [← e_h11]; exact hL
            refine x_iload_n (i := 3) (b := 171) dX7_readMouth_170 rfl rfl rfl ?_
            refine x_if_eq (tgt := 183) (b := 174) dX7_readMouth_171 (by decide) rfl (fun hc => ?_) (fun hc => ?_)
            · replace hF := br_T hc hF
              exact x_dp (ls2 := [some (xr 7 0), none, none, some (xi x3), none, some (xr 4 j4)]) ⟨rfl, rfl, rfl, trivial⟩ (hr_183 x3 j4 h11 hL hF)
            · replace hF := br_F hc hF
              refine x_aload_n (i := 0) (b := 175) dX7_readMouth_174 rfl rfl rfl ?_
              refine x_aload (i := 5) (b := 177) dX7_readMouth_175 rfl rfl ?_
              obtain ⟨v12, h13, hq, hF⟩ := bd_e hF
              refine x_callV (as := [xr 4 j4]) (rest := []) (b := 180) (c_X7_readOdds (d + 1) n j4 h11 _ hL hq) dX7_readMouth_177 cw_X7_272 ⟨_, _, rfl, Nat.le_of_ble_eq_true rfl⟩ rfl rfl (Nat.le_of_ble_eq_true rfl) ⟨Nat.le_refl _, Nat.le_refl _⟩ rfl (fun rv hh hp _ => ?_)
              obtain ⟨rfl, rfl, hL⟩ := hp
              refine x_if_eq (tgt := 201) (b := 183) dX7_readMouth_180 (by decide) rfl (fun hc => ?_) (fun hc => ?_)
              · replace hF := br_T hc hF
                refine x_iconst (n := 0) (b := 202) dX7_readMouth_201 (by decide) rfl ?_
                refine x_zreturn dX7_readMouth_202 rfl ⟨Nat.le_refl _, Nat.le_refl _⟩ (by decide) ?_
                cases hF
                exact ⟨rfl, rfl, hL⟩
              · replace hF := br_F hc hF
                exact x_dp (ls2 := [some (xr 7 0), none, none, some (xi x3), none, some (xr 4 j4)]) ⟨rfl, rfl, rfl, trivial⟩ (hr_183 x3 j4 h13 hL hF)
          · replace hF := br_T hc hF
            refine x_iconst (n := 0) (b := 160) dX7_readMouth_159 (by decide) rfl ?_
            refine x_zreturn dX7_readMouth_160 rfl ⟨Nat.le_refl _, Nat.le_refl _⟩ (by decide) ?_
            cases hF
            exact ⟨rfl, rfl, hL⟩
        · replace hF := br_F hc hF
          refine x_aload_n (i := 0) (b := 115) dX7_readMouth_114 rfl rfl rfl ?_
          refine x_iconst (n := 3) (b := 116) dX7_readMouth_115 (by decide) rfl ?_
          refine x_aload_n (i := 0) (b := 117) dX7_readMouth_116 rfl rfl rfl ?_
          refine x_getI (v := gI h2 7 0 7) (b := 120) fk_X7_29 dX7_readMouth_117 (by decide) rfl rfl ?_
          obtain ⟨v14, h15, hq, hF⟩ := bd_e hF
          refine x_callV (as := [xi 3, xi (gI h2 7 0 7)]) (rest := []) (b := 123) (c_X7_wrong (d + 3) n 3 (gI h2 7 0 7) h2 _ hL hq) dX7_readMouth_120 cw_X7_149 ⟨_, _, rfl, Nat.le_of_ble_eq_true rfl⟩ rfl rfl (Nat.le_of_ble_eq_true rfl) ⟨Nat.le_refl _, Nat.le_refl _⟩ rfl (fun rv hh hp _ => ?_)
          obtain ⟨rfl, rfl, hL⟩ := hp
          obtain ⟨hs, hF⟩ := ck_e hF
          refine x_zreturn dX7_readMouth_123 rfl ⟨Nat.le_refl _, Nat.le_refl _⟩ hs ?_
          cases hF
          exact ⟨rfl, rfl, hL⟩
      · replace hF := br_F hc hF
        exact x_dp (ls2 := [some (xr 7 0), none, none, none, none, none]) ⟨rfl, trivial⟩ (hr_93  h hL hF)
set_option maxHeartbeats 4000000 in
set_option maxRecDepth 100000 in
theorem t_X7_readMouth_5 (E : xE) (d : Nat) (rec : Rk) (n : Nat) (r : Int × Hp) (h : Hp) (hL : Lay h) (hF : b_X7_readMouth_5 rec n  h = some r) : X E mX7_readMouth (d + 5) (0, 0) (0, 0) 93 [some (xr 7 0), none, none, none, none, none] [] h (PoI r) := by
  unfold b_X7_readMouth_5 at hF
  refine x_aload_n (i := 0) (b := 94) dX7_readMouth_93 rfl rfl rfl ?_
  refine x_iconst (n := 1) (b := 95) dX7_readMouth_94 (by decide) rfl ?_
  refine x_aload_n (i := 0) (b := 96) dX7_readMouth_95 rfl rfl rfl ?_
  refine x_getI (v := gI h 7 0 7) (b := 99) fk_X7_29 dX7_readMouth_96 (by decide) rfl rfl ?_
  obtain ⟨v1, h2, hq, hF⟩ := bd_e hF
  refine x_callV (as := [xi 1, xi (gI h 7 0 7)]) (rest := []) (b := 102) (c_X7_wrong (d + 3) n 1 (gI h 7 0 7) h _ hL hq) dX7_readMouth_99 cw_X7_149 ⟨_, _, rfl, Nat.le_of_ble_eq_true rfl⟩ rfl rfl (Nat.le_of_ble_eq_true rfl) ⟨Nat.le_refl _, Nat.le_refl _⟩ rfl (fun rv hh hp _ => ?_)
  obtain ⟨rfl, rfl, hL⟩ := hp
  obtain ⟨hs, hF⟩ := ck_e hF
  refine x_zreturn dX7_readMouth_102 rfl ⟨Nat.le_refl _, Nat.le_refl _⟩ hs ?_
  cases hF
  exact ⟨rfl, rfl, hL⟩
set_option maxHeartbeats 4000000 in
set_option maxRecDepth 100000 in
theorem t_X7_readMouth_6 (E : xE) (d : Nat) (rec : Rk) (n : Nat) (r : Int × Hp) (hr_220 : ∀ (x3 y0 y1 y2 : Int) (h : Hp), Lay h → rec 7 [x3, y0, y1, y2] h = some r → X E mX7_readMouth (d + 5) (0, 0) (0, 0) 220 [some (xr 7 0), none, none, some (xi x3), none, none] [xi y0, xi y1, xr 0 y2] h (PoI r)) (x3 x5 : Int) (h : Hp) (hL : Lay h) (hF : b_X7_readMouth_6 rec n x3 x5 h = some r) : X E mX7_readMouth (d + 5) (0, 0) (0, 0) 183 [some (xr 7 0), none, none, some (xi x3), none, some (xr 4 x5)] [] h (PoI r) := by
  unfold b_X7_readMouth_6 at hF
  refine x_aload_n (i := 0) (b := 184) dX7_readMouth_183 rfl rfl rfl ?_
  refine x_aload (i := 5) (b := 186) dX7_readMouth_184 rfl rfl ?_
  obtain ⟨v1, h2, hq, hF⟩ := bd_e hF
  refine x_callV (as := [xr 4 x5]) (rest := []) (b := 189) (c_X7_readRest d n x5 h _ hL hq) dX7_readMouth_186 cw_X7_276 ⟨_, _, rfl, Nat.le_of_ble_eq_true rfl⟩ rfl rfl (Nat.le_of_ble_eq_true rfl) ⟨Nat.le_refl _, Nat.le_refl _⟩ rfl (fun rv hh hp _ => ?_)
  obtain ⟨rfl, rfl, hL⟩ := hp
  refine x_if_eq (tgt := 201) (b := 192) dX7_readMouth_189 (by decide) rfl (fun hc => ?_) (fun hc => ?_)
  · replace hF := br_T hc hF
    refine x_iconst (n := 0) (b := 202) dX7_readMouth_201 (by decide) rfl ?_
    refine x_zreturn dX7_readMouth_202 rfl ⟨Nat.le_refl _, Nat.le_refl _⟩ (by decide) ?_
    cases hF
    exact ⟨rfl, rfl, hL⟩
  · replace hF := br_F hc hF
    refine x_aload_n (i := 0) (b := 193) dX7_readMouth_192 rfl rfl rfl ?_
    refine x_aload (i := 5) (b := 195) dX7_readMouth_193 rfl rfl ?_
    obtain ⟨v3, h4, hq, hF⟩ := bd_e hF
    refine x_callV (as := [xr 4 x5]) (rest := []) (b := 198) (c_X7_readExpression d n x5 h2 _ hL hq) dX7_readMouth_195 cw_X7_279 ⟨_, _, rfl, Nat.le_of_ble_eq_true rfl⟩ rfl rfl (Nat.le_of_ble_eq_true rfl) ⟨Nat.le_refl _, Nat.le_refl _⟩ rfl (fun rv hh hp _ => ?_)
    obtain ⟨rfl, rfl, hL⟩ := hp
    refine x_if_ne (tgt := 203) (b := 201) dX7_readMouth_198 (by decide) rfl (fun hc => ?_) (fun hc => ?_)
    · replace hF := br_F hc hF
      refine x_aload_n (i := 0) (b := 204) dX7_readMouth_203 rfl rfl rfl ?_
      obtain ⟨j5, e_j5, hF⟩ := rf_e hF
      refine x_getR (v := some (0, j5)) (b := 207) fk_X7_76 dX7_readMouth_204 rfl e_j5 rfl ?_
      refine x_dup (b := 208) dX7_readMouth_207 rfl rfl ?_
      refine x_getI (v := gI h4 0 j5 4) (b := 211) fk_X7_251 dX7_readMouth_208 (by decide) rfl rfl ?_
      refine x_iload_n (i := 3) (b := 212) dX7_readMouth_211 rfl rfl rfl ?_
      refine x_if_eq (tgt := 219) (b := 215) dX7_readMouth_212 (by decide) rfl (fun hc => ?_) (fun hc => ?_)
      · replace hF := br_T hc hF
        refine x_iconst (n := 0) (b := 220) dX7_readMouth_219 (by decide) rfl ?_
        exact x_dp (ls2 := [some (xr 7 0), none, none, some (xi x3), none, none]) ⟨rfl, rfl, trivial⟩ (hr_220 x3 0 (gI h4 0 j5 4) j5 h4 hL hF)
      · replace hF := br_F hc hF
        refine x_iconst (n := 1) (b := 216) dX7_readMouth_215 (by decide) rfl ?_
        refine x_goto (tgt := 220) dX7_readMouth_216 (by decide) ?_
        exact x_dp (ls2 := [some (xr 7 0), none, none, some (xi x3), none, none]) ⟨rfl, rfl, trivial⟩ (hr_220 x3 1 (gI h4 0 j5 4) j5 h4 hL hF)
    · replace hF := br_T hc hF
      refine x_iconst (n := 0) (b := 202) dX7_readMouth_201 (by decide) rfl ?_
      refine x_zreturn dX7_readMouth_202 rfl ⟨Nat.le_refl _, Nat.le_refl _⟩ (by decide) ?_
      cases hF
      exact ⟨rfl, rfl, hL⟩
set_option maxHeartbeats 4000000 in
set_option maxRecDepth 100000 in
theorem t_X7_readMouth_7 (E : xE) (d : Nat) (rec : Rk) (n : Nat) (r : Int × Hp) (x3 y0 y1 y2 : Int) (h : Hp) (hL : Lay h) (hF : b_X7_readMouth_7 rec n x3 y0 y1 y2 h = some r) : X E mX7_readMouth (d + 5) (0, 0) (0, 0) 220 [some (xr 7 0), none, none, some (xi x3), none, none] [xi y0, xi y1, xr 0 y2] h (PoI r) := by
  unfold b_X7_readMouth_7 at hF
  obtain ⟨hs, hF⟩ := ck_e hF
  refine x_iadd (b := 221) dX7_readMouth_220 hs rfl ?_
  refine x_putI (b := 224) fk_X7_251 dX7_readMouth_221 rfl rfl 4 rfl ?_
  obtain ⟨h1, e_h1, hF⟩ := lt_e hF
  refine x_hp (h2 := h1) e_h1 ?_
  replace hL : Lay h1 := by rw [← e_h1]; exact hL
  refine x_aload_n (i := 0) (b := 225) dX7_readMouth_224 rfl rfl rfl ?_
  obtain ⟨j2, e_j2, hF⟩ := rf_e hF
  refine x_getR (v := some (0, j2)) (b := 228) fk_X7_76 dX7_readMouth_225 rfl e_j2 rfl ?_
  refine x_dup (b := 229) dX7_readMouth_228 rfl rfl ?_
  refine x_getI (v := gI h1 0 j2 3) (b := 232) fk_X7_254 dX7_readMouth_229 (by decide) rfl rfl ?_
  refine x_iload_n (i := 3) (b := 233) dX7_readMouth_232 rfl rfl rfl ?_
  refine x_if_eq (tgt := 240) (b := 236) dX7_readMouth_233 (by decide) rfl (fun hc => ?_) (fun hc => ?_)
  · replace hF := br_T hc hF
    refine x_iconst (n := 1) (b := 241) dX7_readMouth_240 (by decide) rfl ?_
    obtain ⟨hs, hF⟩ := ck_e hF
    refine x_iadd (b := 242) dX7_readMouth_241 hs rfl ?_
    refine x_putI (b := 245) fk_X7_254 dX7_readMouth_242 rfl rfl 3 rfl ?_
    obtain ⟨h3, e_h3, hF⟩ := lt_e hF
    refine x_hp (h2 := h3) e_h3 ?_
    replace hL : Lay h3 := by rw [← e_h3]; exact hL
    refine x_iconst (n := 1) (b := 246) dX7_readMouth_245 (by decide) rfl ?_
    refine x_zreturn dX7_readMouth_246 rfl ⟨Nat.le_refl _, Nat.le_refl _⟩ (by decide) ?_
    cases hF
    exact ⟨rfl, rfl, hL⟩
  · replace hF := br_F hc hF
    refine x_iconst (n := 0) (b := 237) dX7_readMouth_236 (by decide) rfl ?_
    refine x_goto (tgt := 241) dX7_readMouth_237 (by decide) ?_
    obtain ⟨hs, hF⟩ := ck_e hF
    refine x_iadd (b := 242) dX7_readMouth_241 hs rfl ?_
    refine x_putI (b := 245) fk_X7_254 dX7_readMouth_242 rfl rfl 3 rfl ?_
    obtain ⟨h4, e_h4, hF⟩ := lt_e hF
    refine x_hp (h2 := h4) e_h4 ?_
    replace hL : Lay h4 := by rw [← e_h4]; exact hL
    refine x_iconst (n := 1) (b := 246) dX7_readMouth_245 (by decide) rfl ?_
    refine x_zreturn dX7_readMouth_246 rfl ⟨Nat.le_refl _, Nat.le_refl _⟩ (by decide) ?_
    cases hF
    exact ⟨rfl, rfl, hL⟩
set_option maxHeartbeats 4000000 in
set_option maxRecDepth 100000 in
theorem u_X7_readMouth (E : xE) (d : Nat) (r : Int × Hp) : ∀ n : Nat, (∀ (x1 x2 : Int) (h : Hp), Lay h → g_X7_readMouth n 0 [x1, x2] h = some r → X E mX7_readMouth (d + 5) (0, 0) (0, 0) 0 [some (xr 7 0), some (xi x1), some (xi x2), none, none, none] [] h (PoI r)) ∧ (∀ (x2 y0 : Int) (h : Hp), Lay h → g_X7_readMouth n 1 [x2, y0] h = some r → X E mX7_readMouth (d + 5) (0, 0) (0, 0) 11 [some (xr 7 0), none, some (xi x2), none, none, none] [xi y0] h (PoI r)) ∧ (∀ (x2 : Int) (h : Hp), Lay h → g_X7_readMouth n 2 [x2] h = some r → X E mX7_readMouth (d + 5) (0, 0) (0, 0) 41 [some (xr 7 0), none, some (xi x2), none, none, none] [] h (PoI r)) ∧ (∀ (x3 : Int) (h : Hp), Lay h → g_X7_readMouth n 3 [x3] h = some r → X E mX7_readMouth (d + 5) (0, 0) (0, 0) 48 [some (xr 7 0), none, none, some (xi x3), none, none] [] h (PoI r)) ∧ (∀ (x3 y0 : Int) (h : Hp), Lay h → g_X7_readMouth n 4 [x3, y0] h = some r → X E mX7_readMouth (d + 5) (0, 0) (0, 0) 71 [some (xr 7 0), none, none, some (xi x3), none, none] [xi y0] h (PoI r)) ∧ (∀ (h : Hp), Lay h → g_X7_readMouth n 5 [] h = some r → X E mX7_readMouth (d + 5) (0, 0) (0, 0) 93 [some (xr 7 0), none, none, none, none, none] [] h (PoI r)) ∧ (∀ (x3 x5 : Int) (h : Hp), Lay h → g_X7_readMouth n 6 [x3, x5] h = some r → X E mX7_readMouth (d + 5) (0, 0) (0, 0) 183 [some (xr 7 0), none, none, some (xi x3), none, some (xr 4 x5)] [] h (PoI r)) ∧ (∀ (x3 y0 y1 y2 : Int) (h : Hp), Lay h → g_X7_readMouth n 7 [x3, y0, y1, y2] h = some r → X E mX7_readMouth (d + 5) (0, 0) (0, 0) 220 [some (xr 7 0), none, none, some (xi x3), none, none] [xi y0, xi y1, xr 0 y2] h (PoI r)) := by
  intro n
  induction n with
  | zero => exact ⟨fun _ _ _ _ hF => no_e (r := r) hF, fun _ _ _ _ hF => no_e (r := r) hF, fun _ _ _ hF => no_e (r := r) hF, fun _ _ _ hF => no_e (r := r) hF, fun _ _ _ _ hF => no_e (r := r) hF, fun _ _ hF => no_e (r := r) hF, fun _ _ _ _ hF => no_e (r := r) hF, fun _ _ _ _ _ _ hF => no_e (r := r) hF⟩
  | succ n ih => exact ⟨fun x1 x2 h hL hF => t_X7_readMouth_0 E d (g_X7_readMouth n) n r ih.2.1 x1 x2 h hL hF, fun x2 y0 h hL hF => t_X7_readMouth_1 E d (g_X7_readMouth n) n r ih.2.2.1 ih.2.2.2.1 x2 y0 h hL hF, fun x2 h hL hF => t_X7_readMouth_2 E d (g_X7_readMouth n) n r  x2 h hL hF, fun x3 h hL hF => t_X7_readMouth_3 E d (g_X7_readMouth n) n r ih.2.2.2.2.1 x3 h hL hF, fun x3 y0 h hL hF => t_X7_readMouth_4 E d (g_X7_readMouth n) n r ih.2.2.2.2.2.1 ih.2.2.2.2.2.2.1 x3 y0 h hL hF, fun h hL hF => t_X7_readMouth_5 E d (g_X7_readMouth n) n r   h hL hF, fun x3 x5 h hL hF => t_X7_readMouth_6 E d (g_X7_readMouth n) n r ih.2.2.2.2.2.2.2 x3 x5 h hL hF, fun x3 y0 y1 y2 h hL hF => t_X7_readMouth_7 E d (g_X7_readMouth n) n r  x3 y0 y1 y2 h hL hF⟩
theorem c_X7_readMouth (d n : Nat) (x1 x2 : Int) (h : Hp) (r : Int × Hp) (hL : Lay h) (hF : f_X7_readMouth n x1 x2 h = some r) : Sp mX7_readMouth (d + 5) (0, 0) [xr 7 0, xi x1, xi x2] h (PoI r) :=
  sp_of (by decide) rfl (Nat.le_of_ble_eq_true rfl) (ls := [some (xr 7 0), some (xi x1), some (xi x2), none, none, none]) rfl (fun E _ => (u_X7_readMouth E d r n).1 x1 x2 h hL hF)
theorem dX11_fitting_0 : decode cX11_fitting 0 = .ok (.aload_n 0, 1) := by decide +kernel
theorem dX11_fitting_1 : decode cX11_fitting 1 = .ok (.getfield 95, 3) := by decide +kernel
theorem dX11_fitting_4 : decode cX11_fitting 4 = .ok (.iconst (-1), 1) := by decide +kernel
theorem dX11_fitting_5 : decode cX11_fitting 5 = .ok (.if_icmp .eq 8, 3) := by decide +kernel
theorem dX11_fitting_8 : decode cX11_fitting 8 = .ok (.aload_n 0, 1) := by decide +kernel
theorem dX11_fitting_9 : decode cX11_fitting 9 = .ok (.getfield 95, 3) := by decide +kernel
theorem dX11_fitting_12 : decode cX11_fitting 12 = .ok (.ireturn, 1) := by decide +kernel
theorem dX11_fitting_13 : decode cX11_fitting 13 = .ok (.aload_n 0, 1) := by decide +kernel
theorem dX11_fitting_14 : decode cX11_fitting 14 = .ok (.getfield 88, 3) := by decide +kernel
theorem dX11_fitting_17 : decode cX11_fitting 17 = .ok (.invokevirtual 318, 3) := by decide +kernel
theorem dX11_fitting_20 : decode cX11_fitting 20 = .ok (.aload_n 0, 1) := by decide +kernel
theorem dX11_fitting_21 : decode cX11_fitting 21 = .ok (.getfield 88, 3) := by decide +kernel
theorem dX11_fitting_24 : decode cX11_fitting 24 = .ok (.invokevirtual 321, 3) := by decide +kernel
theorem dX11_fitting_27 : decode cX11_fitting 27 = .ok (.iconst 1, 1) := by decide +kernel
theorem dX11_fitting_28 : decode cX11_fitting 28 = .ok (.iadd, 1) := by decide +kernel
theorem dX11_fitting_29 : decode cX11_fitting 29 = .ok (.istore_n 1, 1) := by decide +kernel
theorem dX11_fitting_30 : decode cX11_fitting 30 = .ok (.iconst 0, 1) := by decide +kernel
theorem dX11_fitting_31 : decode cX11_fitting 31 = .ok (.istore_n 2, 1) := by decide +kernel
theorem dX11_fitting_32 : decode cX11_fitting 32 = .ok (.iconst 0, 1) := by decide +kernel
theorem dX11_fitting_33 : decode cX11_fitting 33 = .ok (.istore_n 3, 1) := by decide +kernel
theorem dX11_fitting_34 : decode cX11_fitting 34 = .ok (.iload_n 1, 1) := by decide +kernel
theorem dX11_fitting_35 : decode cX11_fitting 35 = .ok (.aload_n 0, 1) := by decide +kernel
theorem dX11_fitting_36 : decode cX11_fitting 36 = .ok (.getfield 57, 3) := by decide +kernel
theorem dX11_fitting_39 : decode cX11_fitting 39 = .ok (.getfield 195, 3) := by decide +kernel
theorem dX11_fitting_42 : decode cX11_fitting 42 = .ok (.if_icmp .gt 138, 3) := by decide +kernel
theorem dX11_fitting_45 : decode cX11_fitting 45 = .ok (.iload_n 3, 1) := by decide +kernel
theorem dX11_fitting_46 : decode cX11_fitting 46 = .ok (.iconst 1, 1) := by decide +kernel
theorem dX11_fitting_47 : decode cX11_fitting 47 = .ok (.aload_n 0, 1) := by decide +kernel
theorem dX11_fitting_48 : decode cX11_fitting 48 = .ok (.getfield 20, 3) := by decide +kernel
theorem dX11_fitting_51 : decode cX11_fitting 51 = .ok (.getfield 237, 3) := by decide +kernel
theorem dX11_fitting_54 : decode cX11_fitting 54 = .ok (.ishl, 1) := by decide +kernel
theorem dX11_fitting_55 : decode cX11_fitting 55 = .ok (.if_icmp .ge 125, 3) := by decide +kernel
theorem dX11_fitting_58 : decode cX11_fitting 58 = .ok (.aload_n 0, 1) := by decide +kernel
theorem dX11_fitting_59 : decode cX11_fitting 59 = .ok (.getfield 92, 3) := by decide +kernel
theorem dX11_fitting_62 : decode cX11_fitting 62 = .ok (.aload_n 0, 1) := by decide +kernel
theorem dX11_fitting_63 : decode cX11_fitting 63 = .ok (.getfield 20, 3) := by decide +kernel
theorem dX11_fitting_66 : decode cX11_fitting 66 = .ok (.invokevirtual 98, 3) := by decide +kernel
theorem dX11_fitting_69 : decode cX11_fitting 69 = .ok (.aload_n 0, 1) := by decide +kernel
theorem dX11_fitting_70 : decode cX11_fitting 70 = .ok (.getfield 92, 3) := by decide +kernel
theorem dX11_fitting_73 : decode cX11_fitting 73 = .ok (.iload_n 3, 1) := by decide +kernel
theorem dX11_fitting_74 : decode cX11_fitting 74 = .ok (.putfield 240, 3) := by decide +kernel
theorem dX11_fitting_77 : decode cX11_fitting 77 = .ok (.iconst 1, 1) := by decide +kernel
theorem dX11_fitting_78 : decode cX11_fitting 78 = .ok (.istore 4, 2) := by decide +kernel
theorem dX11_fitting_80 : decode cX11_fitting 80 = .ok (.iconst 0, 1) := by decide +kernel
theorem dX11_fitting_81 : decode cX11_fitting 81 = .ok (.istore 5, 2) := by decide +kernel
theorem dX11_fitting_83 : decode cX11_fitting 83 = .ok (.iload 4, 2) := by decide +kernel
theorem dX11_fitting_85 : decode cX11_fitting 85 = .ok (.ifCond .eq 74, 3) := by decide +kernel
theorem dX11_fitting_88 : decode cX11_fitting 88 = .ok (.iload 5, 2) := by decide +kernel
theorem dX11_fitting_90 : decode cX11_fitting 90 = .ok (.iload_n 1, 1) := by decide +kernel
theorem dX11_fitting_91 : decode cX11_fitting 91 = .ok (.if_icmp .ge 68, 3) := by decide +kernel
theorem dX11_fitting_94 : decode cX11_fitting 94 = .ok (.iload 5, 2) := by decide +kernel
theorem dX11_fitting_96 : decode cX11_fitting 96 = .ok (.bipush 60, 2) := by decide +kernel
theorem dX11_fitting_98 : decode cX11_fitting 98 = .ok (.if_icmp .ge 61, 3) := by decide +kernel
theorem dX11_fitting_101 : decode cX11_fitting 101 = .ok (.aload_n 0, 1) := by decide +kernel
theorem dX11_fitting_102 : decode cX11_fitting 102 = .ok (.getfield 41, 3) := by decide +kernel
theorem dX11_fitting_105 : decode cX11_fitting 105 = .ok (.aload_n 0, 1) := by decide +kernel
theorem dX11_fitting_106 : decode cX11_fitting 106 = .ok (.getfield 92, 3) := by decide +kernel
theorem dX11_fitting_109 : decode cX11_fitting 109 = .ok (.aload_n 0, 1) := by decide +kernel
theorem dX11_fitting_110 : decode cX11_fitting 110 = .ok (.getfield 64, 3) := by decide +kernel
theorem dX11_fitting_113 : decode cX11_fitting 113 = .ok (.getfield 271, 3) := by decide +kernel
theorem dX11_fitting_116 : decode cX11_fitting 116 = .ok (.iload 5, 2) := by decide +kernel
theorem dX11_fitting_118 : decode cX11_fitting 118 = .ok (.iaload, 1) := by decide +kernel
theorem dX11_fitting_119 : decode cX11_fitting 119 = .ok (.invokevirtual 254, 3) := by decide +kernel
theorem dX11_fitting_122 : decode cX11_fitting 122 = .ok (.istore 6, 2) := by decide +kernel
theorem dX11_fitting_124 : decode cX11_fitting 124 = .ok (.aload_n 0, 1) := by decide +kernel
theorem dX11_fitting_125 : decode cX11_fitting 125 = .ok (.getfield 88, 3) := by decide +kernel
theorem dX11_fitting_128 : decode cX11_fitting 128 = .ok (.iload 5, 2) := by decide +kernel
theorem dX11_fitting_130 : decode cX11_fitting 130 = .ok (.iload 6, 2) := by decide +kernel
theorem dX11_fitting_132 : decode cX11_fitting 132 = .ok (.aload_n 0, 1) := by decide +kernel
theorem dX11_fitting_133 : decode cX11_fitting 133 = .ok (.getfield 41, 3) := by decide +kernel
theorem dX11_fitting_136 : decode cX11_fitting 136 = .ok (.getfield 261, 3) := by decide +kernel
theorem dX11_fitting_139 : decode cX11_fitting 139 = .ok (.invokevirtual 324, 3) := by decide +kernel
theorem dX11_fitting_142 : decode cX11_fitting 142 = .ok (.iconst (-1), 1) := by decide +kernel
theorem dX11_fitting_143 : decode cX11_fitting 143 = .ok (.if_icmp .ne 7, 3) := by decide +kernel
theorem dX11_fitting_146 : decode cX11_fitting 146 = .ok (.iconst 1, 1) := by decide +kernel
theorem dX11_fitting_147 : decode cX11_fitting 147 = .ok (.goto 4, 3) := by decide +kernel
theorem dX11_fitting_150 : decode cX11_fitting 150 = .ok (.iconst 0, 1) := by decide +kernel
theorem dX11_fitting_151 : decode cX11_fitting 151 = .ok (.istore 4, 2) := by decide +kernel
theorem dX11_fitting_153 : decode cX11_fitting 153 = .ok (.iinc 5 1, 3) := by decide +kernel
theorem dX11_fitting_156 : decode cX11_fitting 156 = .ok (.goto (-73), 3) := by decide +kernel
theorem dX11_fitting_159 : decode cX11_fitting 159 = .ok (.iload_n 2, 1) := by decide +kernel
theorem dX11_fitting_160 : decode cX11_fitting 160 = .ok (.iload 4, 2) := by decide +kernel
theorem dX11_fitting_162 : decode cX11_fitting 162 = .ok (.ifCond .eq 9, 3) := by decide +kernel
theorem dX11_fitting_165 : decode cX11_fitting 165 = .ok (.iconst 1, 1) := by decide +kernel
theorem dX11_fitting_166 : decode cX11_fitting 166 = .ok (.iload_n 3, 1) := by decide +kernel
theorem dX11_fitting_167 : decode cX11_fitting 167 = .ok (.ishl, 1) := by decide +kernel
theorem dX11_fitting_168 : decode cX11_fitting 168 = .ok (.goto 4, 3) := by decide +kernel
theorem dX11_fitting_171 : decode cX11_fitting 171 = .ok (.iconst 0, 1) := by decide +kernel
theorem dX11_fitting_172 : decode cX11_fitting 172 = .ok (.ior, 1) := by decide +kernel
theorem dX11_fitting_173 : decode cX11_fitting 173 = .ok (.istore_n 2, 1) := by decide +kernel
theorem dX11_fitting_174 : decode cX11_fitting 174 = .ok (.iinc 3 1, 3) := by decide +kernel
theorem dX11_fitting_177 : decode cX11_fitting 177 = .ok (.goto (-143), 3) := by decide +kernel
theorem dX11_fitting_180 : decode cX11_fitting 180 = .ok (.aload_n 0, 1) := by decide +kernel
theorem dX11_fitting_181 : decode cX11_fitting 181 = .ok (.iload_n 2, 1) := by decide +kernel
theorem dX11_fitting_182 : decode cX11_fitting 182 = .ok (.putfield 95, 3) := by decide +kernel
theorem dX11_fitting_185 : decode cX11_fitting 185 = .ok (.iload_n 2, 1) := by decide +kernel
theorem dX11_fitting_186 : decode cX11_fitting 186 = .ok (.ireturn, 1) := by decide +kernel
noncomputable def b_X11_fitting_0 (rec : Rk) (n : Nat) (h : Hp) : Option (Int × Hp) :=
  if (gI h 11 0 16) = (-1) then (
    bd (f_X5_sift n h) fun v1 h2 =>
    bd (f_X5_latestMeal n h2) fun v3 h4 =>
    ck (-2147483648 ≤ v3 + 1 ∧ v3 + 1 < 2147483648) <|
    lt (v3 + 1) fun z5 =>
    rec 1 [z5, 0, 0] h4
  ) else (
    some (gI h 11 0 16, h)
  )
noncomputable def b_X11_fitting_1 (rec : Rk) (n : Nat) (x1 x2 x3 : Int) (h : Hp) : Option (Int × Hp) :=
  if (gI h 10 0 0) < x1 then (
    rec 6 [x2] h
  ) else (
    rf (gR h 11 0 2) 0 fun j1 =>
    if (bshl 1 (gI h 0 j1 4)) ≤ x3 then (
      rec 6 [x2] h
    ) else (
      rf (gR h 11 0 2) 0 fun j2 =>
      bd (f_X10_begin n 22 j2 h) fun v3 h4 =>
      lt (sI h4 10 22 5 x3) fun h5 =>
      rec 2 [x1, x2, x3, 1, 0] h5
    )
  )
noncomputable def b_X11_fitting_2 (rec : Rk) (n : Nat) (x1 x2 x3 x4 x5 : Int) (h : Hp) : Option (Int × Hp) :=
  if x4 = 0 then (
    rec 4 [x1, x2, x3, x4] h
  ) else (
    if x1 ≤ x5 then (
      rec 4 [x1, x2, x3, x4] h
    ) else (
      if 60 ≤ x5 then (
        rec 4 [x1, x2, x3, x4] h
      ) else (
        ck (0 ≤ x5 ∧ x5 < 60) <|
        bd (f_X2_hold n 22 (gI h 38 0 x5) h) fun v1 h2 =>
        bd (f_X5_firstFalse n x5 v1 (gI h2 2 0 7) h2) fun v3 h4 =>
        if v3 = (-1) then (
          rec 3 [x1, x2, x3, x5, 1] h4
        ) else (
          rec 3 [x1, x2, x3, x5, 0] h4
        )
      )
    )
  )
noncomputable def b_X11_fitting_3 (rec : Rk) (n : Nat) (x1 x2 x3 x5 y0 : Int) (h : Hp) : Option (Int × Hp) :=
  ck (-2147483648 ≤ x5 + 1 ∧ x5 + 1 < 2147483648) <|
  rec 2 [x1, x2, x3, y0, x5 + 1] h
noncomputable def b_X11_fitting_4 (rec : Rk) (n : Nat) (x1 x2 x3 x4 : Int) (h : Hp) : Option (Int × Hp) :=
  if x4 = 0 then (
    rec 5 [x1, x3, 0, x2] h
  ) else (
    rec 5 [x1, x3, bshl 1 x3, x2] h
  )
noncomputable def b_X11_fitting_5 (rec : Rk) (n : Nat) (x1 x3 y0 y1 : Int) (h : Hp) : Option (Int × Hp) :=
  lt (bor y1 y0) fun z1 =>
  ck (-2147483648 ≤ x3 + 1 ∧ x3 + 1 < 2147483648) <|
  rec 1 [x1, z1, x3 + 1] h
noncomputable def b_X11_fitting_6 (rec : Rk) (n : Nat) (x2 : Int) (h : Hp) : Option (Int × Hp) :=
  lt (sI h 11 0 16 x2) fun h1 =>
  some (x2, h1)
noncomputable def g_X11_fitting (n : Nat) : Rk := Nat.rec (motive := fun _ => Rk) (fun _ _ _ => none) (fun n rec k l h => if k = 0 then b_X11_fitting_0 rec n  h else if k = 1 then b_X11_fitting_1 rec n (l.getD 0 0) (l.getD 1 0) (l.getD 2 0) h else if k = 2 then b_X11_fitting_2 rec n (l.getD 0 0) (l.getD 1 0) (l.getD 2 0) (l.getD 3 0) (l.getD 4 0) h else if k = 3 then b_X11_fitting_3 rec n (l.getD 0 0) (l.getD 1 0) (l.getD 2 0) (l.getD 3 0) (l.getD 4 0) h else if k = 4 then b_X11_fitting_4 rec n (l.getD 0 0) (l.getD 1 0) (l.getD 2 0) (l.getD 3 0) h else if k = 5 then b_X11_fitting_5 rec n (l.getD 0 0) (l.getD 1 0) (l.getD 2 0) (l.getD 3 0) h else if k = 6 then b_X11_fitting_6 rec n (l.getD 0 0) h else none) n
noncomputable def f_X11_fitting (n : Nat) (h : Hp) : Option (Int × Hp) := g_X11_fitting n 0 [] h
set_option maxHeartbeats 4000000 in
set_option maxRecDepth 100000 in
theorem t_X11_fitting_0 (E : xE) (d : Nat) (rec : Rk) (n : Nat) (r : Int × Hp) (hr_34 : ∀ (x1 x2 x3 : Int) (h : Hp), Lay h → rec 1 [x1, x2, x3] h = some r → X E mX11_fitting (d + 7) (0, 0) (0, 0) 34 [some (xr 11 0), some (xi x1), some (xi x2), some (xi x3), none, none, none] [] h (PoI r)) (h : Hp) (hL : Lay h) (hF : b_X11_fitting_0 rec n  h = some r) : X E mX11_fitting (d + 7) (0, 0) (0, 0) 0 [some (xr 11 0), none, none, none, none, none, none] [] h (PoI r) := by
  unfold b_X11_fitting_0 at hF
  refine x_aload_n (i := 0) (b := 1) dX11_fitting_0 rfl rfl rfl ?_
  refine x_getI (v := gI h 11 0 16) (b := 4) fk_X11_95 dX11_fitting_1 (by decide) rfl rfl ?_
  refine x_iconst (n := (-1)) (b := 5) dX11_fitting_4 (by decide) rfl ?_
  refine x_icmp_eq (tgt := 13) (b := 8) dX11_fitting_5 (by decide) rfl (fun hc => ?_) (fun hc => ?_)
  · replace hF := br_T hc hF
    refine x_aload_n (i := 0) (b := 14) dX11_fitting_13 rfl rfl rfl ?_
    refine x_getL (j := 0) (t := (5, 0, false)) (b := 17) fk_X11_88 dX11_fitting_14 rfl hL rfl rfl rfl ?_
    obtain ⟨v1, h2, hq, hF⟩ := bd_e hF
    refine x_callV (as := []) (rest := []) (b := 20) (c_X5_sift (d + 4) n h _ hL hq) dX11_fitting_17 cw_X11_318 ⟨_, _, rfl, Nat.le_of_ble_eq_true rfl⟩ rfl rfl (Nat.le_of_ble_eq_true rfl) ⟨Nat.le_refl _, Nat.le_refl _⟩ rfl (fun rv hh hp _ => ?_)
    obtain ⟨rfl, rfl, hL⟩ := hp
    refine x_aload_n (i := 0) (b := 21) dX11_fitting_20 rfl rfl rfl ?_
    refine x_getL (j := 0) (t := (5, 0, false)) (b := 24) fk_X11_88 dX11_fitting_21 rfl hL rfl rfl rfl ?_
    obtain ⟨v3, h4, hq, hF⟩ := bd_e hF
    refine x_callV (as := []) (rest := []) (b := 27) (c_X5_latestMeal (d + 3) n h2 _ hL hq) dX11_fitting_24 cw_X11_321 ⟨_, _, rfl, Nat.le_of_ble_eq_true rfl⟩ rfl rfl (Nat.le_of_ble_eq_true rfl) ⟨Nat.le_refl _, Nat.le_refl _⟩ rfl (fun rv hh hp _ => ?_)
    obtain ⟨rfl, rfl, hL⟩ := hp
    refine x_iconst (n := 1) (b := 28) dX11_fitting_27 (by decide) rfl ?_
    obtain ⟨hs, hF⟩ := ck_e hF
    refine x_iadd (b := 29) dX11_fitting_28 hs rfl ?_
    obtain ⟨z5, e_z5, hF⟩ := lt_e hF
    refine x_eq (y := z5) e_z5 ?_
    refine x_istore_n (i := 1) (b := 30) (ls2 := [some (xr 11 0), some (xi z5), none, none, none, none, none]) dX11_fitting_29 rfl (Nat.le_of_ble_eq_true rfl) rfl rfl ?_
    refine x_iconst (n := 0) (b := 31) dX11_fitting_30 (by decide) rfl ?_
    refine x_istore_n (i := 2) (b := 32) (ls2 := [some (xr 11 0), some (xi z5), some (xi 0), none, none, none, none]) dX11_fitting_31 rfl (Nat.le_of_ble_eq_true rfl) rfl rfl ?_
    refine x_iconst (n := 0) (b := 33) dX11_fitting_32 (by decide) rfl ?_
    refine x_istore_n (i := 3) (b := 34) (ls2 := [some (xr 11 0), some (xi z5), some (xi 0), some (xi 0), none, none, none]) dX11_fitting_33 rfl (Nat.le_of_ble_eq_true rfl) rfl rfl ?_
    exact x_dp (ls2 := [some (xr 11 0), some (xi z5), some (xi 0), some (xi 0), none, none, none]) ⟨rfl, rfl, rfl, rfl, trivial⟩ (hr_34 z5 0 0 h4 hL hF)
  · replace hF := br_F hc hF
    refine x_aload_n (i := 0) (b := 9) dX11_fitting_8 rfl rfl rfl ?_
    refine x_getI (v := gI h 11 0 16) (b := 12) fk_X11_95 dX11_fitting_9 (by decide) rfl rfl ?_
    refine x_ireturn dX11_fitting_12 rfl ⟨Nat.le_refl _, Nat.le_refl _⟩ ?_
    cases hF
    exact ⟨rfl, rfl, hL⟩
set_option maxHeartbeats 4000000 in
set_option maxRecDepth 100000 in
theorem t_X11_fitting_1 (E : xE) (d : Nat) (rec : Rk) (n : Nat) (r : Int × Hp) (hr_83 : ∀ (x1 x2 x3 x4 x5 : Int) (h : Hp), Lay h → rec 2 [x1, x2, x3, x4, x5] h = some r → X E mX11_fitting (d + 7) (0, 0) (0, 0) 83 [some (xr 11 0), some (xi x1), some (xi x2), some (xi x3), some (xi x4), some (xi x5), none] [] h (PoI r)) (hr_180 : ∀ (x2 : Int) (h : Hp), Lay h → rec 6 [x2] h = some r → X E mX11_fitting (d + 7) (0, 0) (0, 0) 180 [some (xr 11 0), none, some (xi x2), none, none, none, none] [] h (PoI r)) (x1 x2 x3 : Int) (h : Hp) (hL : Lay h) (hF : b_X11_fitting_1 rec n x1 x2 x3 h = some r) : X E mX11_fitting (d + 7) (0, 0) (0, 0) 34 [some (xr 11 0), some (xi x1), some (xi x2), some (xi x3), none, none, none] [] h (PoI r) := by
  unfold b_X11_fitting_1 at hF
  refine x_iload_n (i := 1) (b := 35) dX11_fitting_34 rfl rfl rfl ?_
  refine x_aload_n (i := 0) (b := 36) dX11_fitting_35 rfl rfl rfl ?_
  refine x_getL (j := 0) (t := (10, 0, false)) (b := 39) fk_X11_57 dX11_fitting_36 rfl hL rfl rfl rfl ?_
  refine x_getI (v := gI h 10 0 0) (b := 42) fk_X11_195 dX11_fitting_39 (by decide) rfl rfl ?_
  refine x_icmp_gt (tgt := 180) (b := 45) dX11_fitting_42 (by decide) rfl (fun hc => ?_) (fun hc => ?_)
  · replace hF := br_T hc hF
    exact x_dp (ls2 := [some (xr 11 0), none, some (xi x2), none, none, none, none]) ⟨rfl, rfl, trivial⟩ (hr_180 x2 h hL hF)
  · replace hF := br_F hc hF
    refine x_iload_n (i := 3) (b := 46) dX11_fitting_45 rfl rfl rfl ?_
    refine x_iconst (n := 1) (b := 47) dX11_fitting_46 (by decide) rfl ?_
    refine x_aload_n (i := 0) (b := 48) dX11_fitting_47 rfl rfl rfl ?_
    obtain ⟨j1, e_j1, hF⟩ := rf_e hF
    refine x_getR (v := some (0, j1)) (b := 51) fk_X11_20 dX11_fitting_48 rfl e_j1 rfl ?_
    refine x_getI (v := gI h 0 j1 4) (b := 54) fk_X11_237 dX11_fitting_51 (by decide) rfl rfl ?_
    refine x_ishl (b := 55) dX11_fitting_54 rfl ?_
    refine x_icmp_ge (tgt := 180) (b := 58) dX11_fitting_55 (by decide) rfl (fun hc => ?_) (fun hc => ?_)
    · replace hF := br_T hc hF
      exact x_dp (ls2 := [some (xr 11 0), none, some (xi x2), none, none, none, none]) ⟨rfl, rfl, trivial⟩ (hr_180 x2 h hL hF)
    · replace hF := br_F hc hF
      refine x_aload_n (i := 0) (b := 59) dX11_fitting_58 rfl rfl rfl ?_
      refine x_getL (j := 22) (t := (10, 22, false)) (b := 62) fk_X11_92 dX11_fitting_59 rfl hL rfl rfl rfl ?_
      refine x_aload_n (i := 0) (b := 63) dX11_fitting_62 rfl rfl rfl ?_
      obtain ⟨j2, e_j2, hF⟩ := rf_e hF
      refine x_getR (v := some (0, j2)) (b := 66) fk_X11_20 dX11_fitting_63 rfl e_j2 rfl ?_
      obtain ⟨v3, h4, hq, hF⟩ := bd_e hF
      refine x_callV (as := [xr 0 j2]) (rest := []) (b := 69) (c_X10_begin (d + 5) n 22 j2 h _ hL hq) dX11_fitting_66 cw_X11_98 ⟨_, _, rfl, Nat.le_of_ble_eq_true rfl⟩ rfl rfl (Nat.le_of_ble_eq_true rfl) ⟨Nat.le_refl _, Nat.le_refl _⟩ rfl (fun rv hh hp _ => ?_)
      obtain ⟨rfl, rfl, hL⟩ := hp
      refine x_aload_n (i := 0) (b := 70) dX11_fitting_69 rfl rfl rfl ?_
      refine x_getL (j := 22) (t := (10, 22, false)) (b := 73) fk_X11_92 dX11_fitting_70 rfl hL rfl rfl rfl ?_
      refine x_iload_n (i := 3) (b := 74) dX11_fitting_73 rfl rfl rfl ?_
      refine x_putI (b := 77) fk_X11_240 dX11_fitting_74 rfl rfl 5 rfl ?_
      obtain ⟨h5, e_h5, hF⟩ := lt_e hF
      refine x_hp (h2 := h5) e_h5 ?_
      replace hL : Lay h5 := by rw [← e_h5]; exact hL
      refine x_iconst (n := 1) (b := 78) dX11_fitting_77 (by decide) rfl ?_
      refine x_istore (i := 4) (b := 80) (ls2 := [some (xr 11 0), some (xi x1), some (xi x2), some (xi x3), some (xi 1), none, none]) dX11_fitting_78 (Nat.le_of_ble_eq_true rfl) rfl rfl ?_
      refine x_iconst (n := 0) (b := 81) dX11_fitting_80 (by decide) rfl ?_
      refine x_istore (i := 5) (b := 83) (ls2 := [some (xr 11 0), some (xi x1), some (xi x2), some (xi x3), some (xi 1), some (xi 0), none]) dX11_fitting_81 (Nat.le_of_ble_eq_true rfl) rfl rfl ?_
      exact x_dp (ls2 := [some (xr 11 0), some (xi x1), some (xi x2), some (xi x3), some (xi 1), some (xi 0), none]) ⟨rfl, rfl, rfl, rfl, rfl, rfl, trivial⟩ (hr_83 x1 x2 x3 1 0 h5 hL hF)
set_option maxHeartbeats 4000000 in
set_option maxRecDepth 100000 in
theorem t_X11_fitting_2 (E : xE) (d : Nat) (rec : Rk) (n : Nat) (r : Int × Hp) (hr_151 : ∀ (x1 x2 x3 x5 y0 : Int) (h : Hp), Lay h → rec 3 [x1, x2, x3, x5, y0] h = some r → X E mX11_fitting (d + 7) (0, 0) (0, 0) 151 [some (xr 11 0), some (xi x1), some (xi x2), some (xi x3), none, some (xi x5), none] [xi y0] h (PoI r)) (hr_159 : ∀ (x1 x2 x3 x4 : Int) (h : Hp), Lay h → rec 4 [x1, x2, x3, x4] h = some r → X E mX11_fitting (d + 7) (0, 0) (0, 0) 159 [some (xr 11 0), some (xi x1), some (xi x2), some (xi x3), some (xi x4), none, none] [] h (PoI r)) (x1 x2 x3 x4 x5 : Int) (h : Hp) (hL : Lay h) (hF : b_X11_fitting_2 rec n x1 x2 x3 x4 x5 h = some r) : X E mX11_fitting (d + 7) (0, 0) (0, 0) 83 [some (xr 11 0), some (xi x1), some (xi x2), some (xi x3), some (xi x4), some (xi x5), none] [] h (PoI r) := by
  unfold b_X11_fitting_2 at hF
  refine x_iload (i := 4) (b := 85) dX11_fitting_83 rfl rfl ?_
  refine x_if_eq (tgt := 159) (b := 88) dX11_fitting_85 (by decide) rfl (fun hc => ?_) (fun hc => ?_)
  · replace hF := br_T hc hF
    exact x_dp (ls2 := [some (xr 11 0), some (xi x1), some (xi x2), some (xi x3), some (xi x4), none, none]) ⟨rfl, rfl, rfl, rfl, rfl, trivial⟩ (hr_159 x1 x2 x3 x4 h hL hF)
  · replace hF := br_F hc hF
    refine x_iload (i := 5) (b := 90) dX11_fitting_88 rfl rfl ?_
    refine x_iload_n (i := 1) (b := 91) dX11_fitting_90 rfl rfl rfl ?_
    refine x_icmp_ge (tgt := 159) (b := 94) dX11_fitting_91 (by decide) rfl (fun hc => ?_) (fun hc => ?_)
    · replace hF := br_T hc hF
      exact x_dp (ls2 := [some (xr 11 0), some (xi x1), some (xi x2), some (xi x3), some (xi x4), none, none]) ⟨rfl, rfl, rfl, rfl, rfl, trivial⟩ (hr_159 x1 x2 x3 x4 h hL hF)
    · replace hF := br_F hc hF
      refine x_iload (i := 5) (b := 96) dX11_fitting_94 rfl rfl ?_
      refine x_bipush (n := 60) (b := 98) dX11_fitting_96 (by decide) rfl ?_
      refine x_icmp_ge (tgt := 159) (b := 101) dX11_fitting_98 (by decide) rfl (fun hc => ?_) (fun hc => ?_)
      · replace hF := br_T hc hF
        exact x_dp (ls2 := [some (xr 11 0), some (xi x1), some (xi x2), some (xi x3), some (xi x4), none, none]) ⟨rfl, rfl, rfl, rfl, rfl, trivial⟩ (hr_159 x1 x2 x3 x4 h hL hF)
      · replace hF := br_F hc hF
        refine x_aload_n (i := 0) (b := 102) dX11_fitting_101 rfl rfl rfl ?_
        refine x_getL (j := 0) (t := (2, 0, false)) (b := 105) fk_X11_41 dX11_fitting_102 rfl hL rfl rfl rfl ?_
        refine x_aload_n (i := 0) (b := 106) dX11_fitting_105 rfl rfl rfl ?_
        refine x_getL (j := 22) (t := (10, 22, false)) (b := 109) fk_X11_92 dX11_fitting_106 rfl hL rfl rfl rfl ?_
        refine x_aload_n (i := 0) (b := 110) dX11_fitting_109 rfl rfl rfl ?_
        refine x_getL (j := 0) (t := (3, 0, false)) (b := 113) fk_X11_64 dX11_fitting_110 rfl hL rfl rfl rfl ?_
        refine x_getL (j := 0) (t := (38, 0, true)) (b := 116) fk_X11_271 dX11_fitting_113 rfl hL rfl rfl rfl ?_
        refine x_iload (i := 5) (b := 118) dX11_fitting_116 rfl rfl ?_
        obtain ⟨hs, hF⟩ := ck_e hF
        refine x_iald (v := gI h 38 0 x5) (b := 119) ak_38 dX11_fitting_118 hs rfl rfl ?_
        obtain ⟨v1, h2, hq, hF⟩ := bd_e hF
        refine x_callV (as := [xr 10 22, xi (gI h 38 0 x5)]) (rest := []) (b := 122) (c_X2_hold d n 22 (gI h 38 0 x5) h _ hL hq) dX11_fitting_119 cw_X11_254 ⟨_, _, rfl, Nat.le_of_ble_eq_true rfl⟩ rfl rfl (Nat.le_of_ble_eq_true rfl) ⟨Nat.le_refl _, Nat.le_refl _⟩ rfl (fun rv hh hp _ => ?_)
        obtain ⟨rfl, rfl, hL⟩ := hp
        refine x_istore (i := 6) (b := 124) (ls2 := [some (xr 11 0), some (xi x1), some (xi x2), some (xi x3), some (xi x4), some (xi x5), some (xi v1)]) dX11_fitting_122 (Nat.le_of_ble_eq_true rfl) rfl rfl ?_
        refine x_aload_n (i := 0) (b := 125) dX11_fitting_124 rfl rfl rfl ?_
        refine x_getL (j := 0) (t := (5, 0, false)) (b := 128) fk_X11_88 dX11_fitting_125 rfl hL rfl rfl rfl ?_
        refine x_iload (i := 5) (b := 130) dX11_fitting_128 rfl rfl ?_
        refine x_iload (i := 6) (b := 132) dX11_fitting_130 rfl rfl ?_
        refine x_aload_n (i := 0) (b := 133) dX11_fitting_132 rfl rfl rfl ?_
        refine x_getL (j := 0) (t := (2, 0, false)) (b := 136) fk_X11_41 dX11_fitting_133 rfl hL rfl rfl rfl ?_
        refine x_getI (v := gI h2 2 0 7) (b := 139) fk_X11_261 dX11_fitting_136 (by decide) rfl rfl ?_
        obtain ⟨v3, h4, hq, hF⟩ := bd_e hF
        refine x_callV (as := [xi x5, xi v1, xi (gI h2 2 0 7)]) (rest := []) (b := 142) (c_X5_firstFalse (d + 3) n x5 v1 (gI h2 2 0 7) h2 _ hL hq) dX11_fitting_139 cw_X11_324 ⟨_, _, rfl, Nat.le_of_ble_eq_true rfl⟩ rfl rfl (Nat.le_of_ble_eq_true rfl) ⟨Nat.le_refl _, Nat.le_refl _⟩ rfl (fun rv hh hp _ => ?_)
        obtain ⟨rfl, rfl, hL⟩ := hp
        refine x_iconst (n := (-1)) (b := 143) dX11_fitting_142 (by decide) rfl ?_
        refine x_icmp_ne (tgt := 150) (b := 146) dX11_fitting_143 (by decide) rfl (fun hc => ?_) (fun hc => ?_)
        · replace hF := br_F hc hF
          refine x_iconst (n := 0) (b := 151) dX11_fitting_150 (by decide) rfl ?_
          exact x_dp (ls2 := [some (xr 11 0), some (xi x1), some (xi x2), some (xi x3), none, some (xi x5), none]) ⟨rfl, rfl, rfl, rfl, rfl, trivial⟩ (hr_151 x1 x2 x3 x5 0 h4 hL hF)
        · replace hF := br_T hc hF
          refine x_iconst (n := 1) (b := 147) dX11_fitting_146 (by decide) rfl ?_
          refine x_goto (tgt := 151) dX11_fitting_147 (by decide) ?_
          exact x_dp (ls2 := [some (xr 11 0), some (xi x1), some (xi x2), some (xi x3), none, some (xi x5), none]) ⟨rfl, rfl, rfl, rfl, rfl, trivial⟩ (hr_151 x1 x2 x3 x5 1 h4 hL hF)
set_option maxHeartbeats 4000000 in
set_option maxRecDepth 100000 in
theorem t_X11_fitting_3 (E : xE) (d : Nat) (rec : Rk) (n : Nat) (r : Int × Hp) (hr_83 : ∀ (x1 x2 x3 x4 x5 : Int) (h : Hp), Lay h → rec 2 [x1, x2, x3, x4, x5] h = some r → X E mX11_fitting (d + 7) (0, 0) (0, 0) 83 [some (xr 11 0), some (xi x1), some (xi x2), some (xi x3), some (xi x4), some (xi x5), none] [] h (PoI r)) (x1 x2 x3 x5 y0 : Int) (h : Hp) (hL : Lay h) (hF : b_X11_fitting_3 rec n x1 x2 x3 x5 y0 h = some r) : X E mX11_fitting (d + 7) (0, 0) (0, 0) 151 [some (xr 11 0), some (xi x1), some (xi x2), some (xi x3), none, some (xi x5), none] [xi y0] h (PoI r) := by
  unfold b_X11_fitting_3 at hF
  refine x_istore (i := 4) (b := 153) (ls2 := [some (xr 11 0), some (xi x1), some (xi x2), some (xi x3), some (xi y0), some (xi x5), none]) dX11_fitting_151 (Nat.le_of_ble_eq_true rfl) rfl rfl ?_
  obtain ⟨hs, hF⟩ := ck_e hF
  refine x_iinc (i := 5) (b := 156) (ls2 := [some (xr 11 0), some (xi x1), some (xi x2), some (xi x3), some (xi y0), some (xi (x5 + 1)), none]) dX11_fitting_153 rfl (Nat.le_of_ble_eq_true rfl) hs rfl rfl ?_
  refine x_goto (tgt := 83) dX11_fitting_156 (by decide) ?_
  exact x_dp (ls2 := [some (xr 11 0), some (xi x1), some (xi x2), some (xi x3), some (xi y0), some (xi (x5 + 1)), none]) ⟨rfl, rfl, rfl, rfl, rfl, rfl, trivial⟩ (hr_83 x1 x2 x3 y0 (x5 + 1) h hL hF)
set_option maxHeartbeats 4000000 in
set_option maxRecDepth 100000 in
theorem t_X11_fitting_4 (E : xE) (d : Nat) (rec : Rk) (n : Nat) (r : Int × Hp) (hr_172 : ∀ (x1 x3 y0 y1 : Int) (h : Hp), Lay h → rec 5 [x1, x3, y0, y1] h = some r → X E mX11_fitting (d + 7) (0, 0) (0, 0) 172 [some (xr 11 0), some (xi x1), none, some (xi x3), none, none, none] [xi y0, xi y1] h (PoI r)) (x1 x2 x3 x4 : Int) (h : Hp) (hL : Lay h) (hF : b_X11_fitting_4 rec n x1 x2 x3 x4 h = some r) : X E mX11_fitting (d + 7) (0, 0) (0, 0) 159 [some (xr 11 0), some (xi x1), some (xi x2), some (xi x3), some (xi x4), none, none] [] h (PoI r) := by
  unfold b_X11_fitting_4 at hF
  refine x_iload_n (i := 2) (b := 160) dX11_fitting_159 rfl rfl rfl ?_
  refine x_iload (i := 4) (b := 162) dX11_fitting_160 rfl rfl ?_
  refine x_if_eq (tgt := 171) (b := 165) dX11_fitting_162 (by decide) rfl (fun hc => ?_) (fun hc => ?_)
  · replace hF := br_T hc hF
    refine x_iconst (n := 0) (b := 172) dX11_fitting_171 (by decide) rfl ?_
    exact x_dp (ls2 := [some (xr 11 0), some (xi x1), none, some (xi x3), none, none, none]) ⟨rfl, rfl, rfl, trivial⟩ (hr_172 x1 x3 0 x2 h hL hF)
  · replace hF := br_F hc hF
    refine x_iconst (n := 1) (b := 166) dX11_fitting_165 (by decide) rfl ?_
    refine x_iload_n (i := 3) (b := 167) dX11_fitting_166 rfl rfl rfl ?_
    refine x_ishl (b := 168) dX11_fitting_167 rfl ?_
    refine x_goto (tgt := 172) dX11_fitting_168 (by decide) ?_
    exact x_dp (ls2 := [some (xr 11 0), some (xi x1), none, some (xi x3), none, none, none]) ⟨rfl, rfl, rfl, trivial⟩ (hr_172 x1 x3 (bshl 1 x3) x2 h hL hF)
set_option maxHeartbeats 4000000 in
set_option maxRecDepth 100000 in
theorem t_X11_fitting_5 (E : xE) (d : Nat) (rec : Rk) (n : Nat) (r : Int × Hp) (hr_34 : ∀ (x1 x2 x3 : Int) (h : Hp), Lay h → rec 1 [x1, x2, x3] h = some r → X E mX11_fitting (d + 7) (0, 0) (0, 0) 34 [some (xr 11 0), some (xi x1), some (xi x2), some (xi x3), none, none, none] [] h (PoI r)) (x1 x3 y0 y1 : Int) (h : Hp) (hL : Lay h) (hF : b_X11_fitting_5 rec n x1 x3 y0 y1 h = some r) : X E mX11_fitting (d + 7) (0, 0) (0, 0) 172 [some (xr 11 0), some (xi x1), none, some (xi x3), none, none, none] [xi y0, xi y1] h (PoI r) := by
  unfold b_X11_fitting_5 at hF
  refine x_ior (b := 173) dX11_fitting_172 rfl ?_
  obtain ⟨z1, e_z1, hF⟩ := lt_e hF
  refine x_eq (y := z1) e_z1 ?_
  refine x_istore_n (i := 2) (b := 174) (ls2 := [some (xr 11 0), some (xi x1), some (xi z1), some (xi x3), none, none, none]) dX11_fitting_173 rfl (Nat.le_of_ble_eq_true rfl) rfl rfl ?_
  obtain ⟨hs, hF⟩ := ck_e hF
  refine x_iinc (i := 3) (b := 177) (ls2 := [some (xr 11 0), some (xi x1), some (xi z1), some (xi (x3 + 1)), none, none, none]) dX11_fitting_174 rfl (Nat.le_of_ble_eq_true rfl) hs rfl rfl ?_
  refine x_goto (tgt := 34) dX11_fitting_177 (by decide) ?_
  exact x_dp (ls2 := [some (xr 11 0), some (xi x1), some (xi z1), some (xi (x3 + 1)), none, none, none]) ⟨rfl, rfl, rfl, rfl, trivial⟩ (hr_34 x1 z1 (x3 + 1) h hL hF)
set_option maxHeartbeats 4000000 in
set_option maxRecDepth 100000 in
theorem t_X11_fitting_6 (E : xE) (d : Nat) (rec : Rk) (n : Nat) (r : Int × Hp) (x2 : Int) (h : Hp) (hL : Lay h) (hF : b_X11_fitting_6 rec n x2 h = some r) : X E mX11_fitting (d + 7) (0, 0) (0, 0) 180 [some (xr 11 0), none, some (xi x2), none, none, none, none] [] h (PoI r) := by
  unfold b_X11_fitting_6 at hF
  refine x_aload_n (i := 0) (b := 181) dX11_fitting_180 rfl rfl rfl ?_
  refine x_iload_n (i := 2) (b := 182) dX11_fitting_181 rfl rfl rfl ?_
  refine x_putI (b := 185) fk_X11_95 dX11_fitting_182 rfl rfl 16 rfl ?_
  obtain ⟨h1, e_h1, hF⟩ := lt_e hF
  refine x_hp (h2 := h1) e_h1 ?_
  replace hL : Lay h1 := by rw [← e_h1]; exact hL
  refine x_iload_n (i := 2) (b := 186) dX11_fitting_185 rfl rfl rfl ?_
  refine x_ireturn dX11_fitting_186 rfl ⟨Nat.le_refl _, Nat.le_refl _⟩ ?_
  cases hF
  exact ⟨rfl, rfl, hL⟩
set_option maxHeartbeats 4000000 in
set_option maxRecDepth 100000 in
theorem u_X11_fitting (E : xE) (d : Nat) (r : Int × Hp) : ∀ n : Nat, (∀ (h : Hp), Lay h → g_X11_fitting n 0 [] h = some r → X E mX11_fitting (d + 7) (0, 0) (0, 0) 0 [some (xr 11 0), none, none, none, none, none, none] [] h (PoI r)) ∧ (∀ (x1 x2 x3 : Int) (h : Hp), Lay h → g_X11_fitting n 1 [x1, x2, x3] h = some r → X E mX11_fitting (d + 7) (0, 0) (0, 0) 34 [some (xr 11 0), some (xi x1), some (xi x2), some (xi x3), none, none, none] [] h (PoI r)) ∧ (∀ (x1 x2 x3 x4 x5 : Int) (h : Hp), Lay h → g_X11_fitting n 2 [x1, x2, x3, x4, x5] h = some r → X E mX11_fitting (d + 7) (0, 0) (0, 0) 83 [some (xr 11 0), some (xi x1), some (xi x2), some (xi x3), some (xi x4), some (xi x5), none] [] h (PoI r)) ∧ (∀ (x1 x2 x3 x5 y0 : Int) (h : Hp), Lay h → g_X11_fitting n 3 [x1, x2, x3, x5, y0] h = some r → X E mX11_fitting (d + 7) (0, 0) (0, 0) 151 [some (xr 11 0), some (xi x1), some (xi x2), some (xi x3), none, some (xi x5), none] [xi y0] h (PoI r)) ∧ (∀ (x1 x2 x3 x4 : Int) (h : Hp), Lay h → g_X11_fitting n 4 [x1, x2, x3, x4] h = some r → X E mX11_fitting (d + 7) (0, 0) (0, 0) 159 [some (xr 11 0), some (xi x1), some (xi x2), some (xi x3), some (xi x4), none, none] [] h (PoI r)) ∧ (∀ (x1 x3 y0 y1 : Int) (h : Hp), Lay h → g_X11_fitting n 5 [x1, x3, y0, y1] h = some r → X E mX11_fitting (d + 7) (0, 0) (0, 0) 172 [some (xr 11 0), some (xi x1), none, some (xi x3), none, none, none] [xi y0, xi y1] h (PoI r)) ∧ (∀ (x2 : Int) (h : Hp), Lay h → g_X11_fitting n 6 [x2] h = some r → X E mX11_fitting (d + 7) (0, 0) (0, 0) 180 [some (xr 11 0), none, some (xi x2), none, none, none, none] [] h (PoI r)) := by
  intro n
  induction n with
  | zero => exact ⟨fun _ _ hF => no_e (r := r) hF, fun _ _ _ _ _ hF => no_e (r := r) hF, fun _ _ _ _ _ _ _ hF => no_e (r := r) hF, fun _ _ _ _ _ _ _ hF => no_e (r := r) hF, fun _ _ _ _ _ _ hF => no_e (r := r) hF, fun _ _ _ _ _ _ hF => no_e (r := r) hF, fun _ _ _ hF => no_e (r := r) hF⟩
  | succ n ih => exact ⟨fun h hL hF => t_X11_fitting_0 E d (g_X11_fitting n) n r ih.2.1  h hL hF, fun x1 x2 x3 h hL hF => t_X11_fitting_1 E d (g_X11_fitting n) n r ih.2.2.1 ih.2.2.2.2.2.2 x1 x2 x3 h hL hF, fun x1 x2 x3 x4 x5 h hL hF => t_X11_fitting_2 E d (g_X11_fitting n) n r ih.2.2.2.1 ih.2.2.2.2.1 x1 x2 x3 x4 x5 h hL hF, fun x1 x2 x3 x5 y0 h hL hF => t_X11_fitting_3 E d (g_X11_fitting n) n r ih.2.2.1 x1 x2 x3 x5 y0 h hL hF, fun x1 x2 x3 x4 h hL hF => t_X11_fitting_4 E d (g_X11_fitting n) n r ih.2.2.2.2.2.1 x1 x2 x3 x4 h hL hF, fun x1 x3 y0 y1 h hL hF => t_X11_fitting_5 E d (g_X11_fitting n) n r ih.2.1 x1 x3 y0 y1 h hL hF, fun x2 h hL hF => t_X11_fitting_6 E d (g_X11_fitting n) n r  x2 h hL hF⟩
theorem c_X11_fitting (d n : Nat) (h : Hp) (r : Int × Hp) (hL : Lay h) (hF : f_X11_fitting n  h = some r) : Sp mX11_fitting (d + 7) (0, 0) [xr 11 0] h (PoI r) :=
  sp_of (by decide) rfl (Nat.le_of_ble_eq_true rfl) (ls := [some (xr 11 0), none, none, none, none, none, none]) rfl (fun E _ => (u_X11_fitting E d r n).1  h hL hF)
