theorem dX1_init_0 : decode cX1_init 0 = .ok (.aload_n 0, 1) := by decide +kernel
theorem dX1_init_1 : decode cX1_init 1 = .ok (.invokespecial 1, 3) := by decide +kernel
theorem dX1_init_4 : decode cX1_init 4 = .ok (.aload_n 0, 1) := by decide +kernel
theorem dX1_init_5 : decode cX1_init 5 = .ok (.bipush 64, 2) := by decide +kernel
theorem dX1_init_7 : decode cX1_init 7 = .ok (.newarray .int, 2) := by decide +kernel
theorem dX1_init_9 : decode cX1_init 9 = .ok (.putfield 9, 3) := by decide +kernel
theorem dX1_init_12 : decode cX1_init 12 = .ok (.aload_n 0, 1) := by decide +kernel
theorem dX1_init_13 : decode cX1_init 13 = .ok (.bipush 64, 2) := by decide +kernel
theorem dX1_init_15 : decode cX1_init 15 = .ok (.newarray .int, 2) := by decide +kernel
theorem dX1_init_17 : decode cX1_init 17 = .ok (.putfield 13, 3) := by decide +kernel
theorem dX1_init_20 : decode cX1_init 20 = .ok (.aload_n 0, 1) := by decide +kernel
theorem dX1_init_21 : decode cX1_init 21 = .ok (.iconst 0, 1) := by decide +kernel
theorem dX1_init_22 : decode cX1_init 22 = .ok (.putfield 16, 3) := by decide +kernel
theorem dX1_init_25 : decode cX1_init 25 = .ok (.aload_n 0, 1) := by decide +kernel
theorem dX1_init_26 : decode cX1_init 26 = .ok (.bipush 7, 2) := by decide +kernel
theorem dX1_init_28 : decode cX1_init 28 = .ok (.newarray .long, 2) := by decide +kernel
theorem dX1_init_30 : decode cX1_init 30 = .ok (.putfield 20, 3) := by decide +kernel
theorem dX1_init_33 : decode cX1_init 33 = .ok (.aload_n 0, 1) := by decide +kernel
theorem dX1_init_34 : decode cX1_init 34 = .ok (.bipush 64, 2) := by decide +kernel
theorem dX1_init_36 : decode cX1_init 36 = .ok (.newarray .long, 2) := by decide +kernel
theorem dX1_init_38 : decode cX1_init 38 = .ok (.putfield 24, 3) := by decide +kernel
theorem dX1_init_41 : decode cX1_init 41 = .ok (.return_, 1) := by decide +kernel
noncomputable def b_X1_init_u_0 (rec : Rk) (x0 : Int) (h : Hp) : Option (Int × Hp) :=
  ckp (blk h 25 x0) <|
  lt (alA h 25 x0) fun h1 =>
  lt (sR h1 1 x0 0 (some (25, x0))) fun h2 =>
  ckp (blk h2 26 x0) <|
  lt (alA h2 26 x0) fun h3 =>
  lt (sR h3 1 x0 1 (some (26, x0))) fun h4 =>
  lt (sI h4 1 x0 2 0) fun h5 =>
  ckp (blk h5 27 x0) <|
  lt (alA h5 27 x0) fun h6 =>
  lt (sR h6 1 x0 3 (some (27, x0))) fun h7 =>
  ckp (blk h7 28 x0) <|
  lt (alA h7 28 x0) fun h8 =>
  lt (sR h8 1 x0 4 (some (28, x0))) fun h9 =>
  some (0, h9)
noncomputable def g_X1_init_u (n : Nat) : Rk := Nat.rec (motive := fun _ => Rk) (fun _ _ _ => none) (fun _ rec k l h => if k = 0 then b_X1_init_u_0 rec (l.getD 0 0) h else none) n
noncomputable def f_X1_init_u (x0 : Int) (h : Hp) : Option (Int × Hp) := g_X1_init_u FU 0 [x0] h
set_option maxHeartbeats 4000000 in
set_option maxRecDepth 100000 in
theorem t_X1_init_u_0 (E : xE) (d : Nat) (rec : Rk) (r : Int × Hp) (x0 : Int) (h : Hp) (hF : b_X1_init_u_0 rec x0 h = some r) : X E mX1_init (d + 1) (4, 199) (0, 0) 0 [some (xr 1 x0)] [] h (PuV r) := by
  unfold b_X1_init_u_0 at hF
  refine x_aload_n (i := 0) (b := 1) dX1_init_0 rfl rfl rfl ?_
  refine x_objInit (b := 4) dX1_init_1 ki_229 ki_146 ki_147 (Nat.le_of_ble_eq_true rfl) rfl ?_
  refine x_aload_n (i := 0) (b := 5) dX1_init_4 rfl rfl rfl ?_
  refine x_bipush (n := 64) (b := 7) dX1_init_5 (by decide) rfl ?_
  obtain ⟨hs, hF⟩ := ckp_e hF
  refine x_newa (r := 25) (i := x0) (N := 64) (b := 9) dX1_init_7 ak_25 (by decide) rfl rfl ki_223 rfl rfl (by decide) (fun C h9 => by cases h9) hs ⟨Nat.le_of_ble_eq_true rfl, Nat.le_of_ble_eq_true rfl⟩ rfl ?_
  obtain ⟨h1, e_h1, hF⟩ := lt_e hF
  refine x_hp (h2 := h1) e_h1 ?_
  refine x_u (u2 := (1, 64)) rfl ?_
  refine x_putAF (b := 12) fk_X1_9 dX1_init_9 rfl rfl (fun _ _ _ h9 => by cases h9; rfl) rfl 0 rfl ?_
  obtain ⟨h2, e_h2, hF⟩ := lt_e hF
  refine x_hp (h2 := h2) e_h2 ?_
  refine x_aload_n (i := 0) (b := 13) dX1_init_12 rfl rfl rfl ?_
  refine x_bipush (n := 64) (b := 15) dX1_init_13 (by decide) rfl ?_
  obtain ⟨hs, hF⟩ := ckp_e hF
  refine x_newa (r := 26) (i := x0) (N := 64) (b := 17) dX1_init_15 ak_26 (by decide) rfl rfl ki_223 rfl rfl (by decide) (fun C h9 => by cases h9) hs ⟨Nat.le_of_ble_eq_true rfl, Nat.le_of_ble_eq_true rfl⟩ rfl ?_
  obtain ⟨h3, e_h3, hF⟩ := lt_e hF
  refine x_hp (h2 := h3) e_h3 ?_
  refine x_u (u2 := (2, 128)) rfl ?_
  refine x_putAF (b := 20) fk_X1_13 dX1_init_17 rfl rfl (fun _ _ _ h9 => by cases h9; rfl) rfl 1 rfl ?_
  obtain ⟨h4, e_h4, hF⟩ := lt_e hF
  refine x_hp (h2 := h4) e_h4 ?_
  refine x_aload_n (i := 0) (b := 21) dX1_init_20 rfl rfl rfl ?_
  refine x_iconst (n := 0) (b := 22) dX1_init_21 (by decide) rfl ?_
  refine x_putI (b := 25) fk_X1_16 dX1_init_22 rfl rfl 2 rfl ?_
  obtain ⟨h5, e_h5, hF⟩ := lt_e hF
  refine x_hp (h2 := h5) e_h5 ?_
  refine x_aload_n (i := 0) (b := 26) dX1_init_25 rfl rfl rfl ?_
  refine x_bipush (n := 7) (b := 28) dX1_init_26 (by decide) rfl ?_
  obtain ⟨hs, hF⟩ := ckp_e hF
  refine x_newa (r := 27) (i := x0) (N := 7) (b := 30) dX1_init_28 ak_27 (by decide) rfl rfl ki_250 rfl rfl (by decide) (fun C h9 => by cases h9) hs ⟨Nat.le_of_ble_eq_true rfl, Nat.le_of_ble_eq_true rfl⟩ rfl ?_
  obtain ⟨h6, e_h6, hF⟩ := lt_e hF
  refine x_hp (h2 := h6) e_h6 ?_
  refine x_u (u2 := (3, 135)) rfl ?_
  refine x_putAF (b := 33) fk_X1_20 dX1_init_30 rfl rfl (fun _ _ _ h9 => by cases h9; rfl) rfl 3 rfl ?_
  obtain ⟨h7, e_h7, hF⟩ := lt_e hF
  refine x_hp (h2 := h7) e_h7 ?_
  refine x_aload_n (i := 0) (b := 34) dX1_init_33 rfl rfl rfl ?_
  refine x_bipush (n := 64) (b := 36) dX1_init_34 (by decide) rfl ?_
  obtain ⟨hs, hF⟩ := ckp_e hF
  refine x_newa (r := 28) (i := x0) (N := 64) (b := 38) dX1_init_36 ak_28 (by decide) rfl rfl ki_250 rfl rfl (by decide) (fun C h9 => by cases h9) hs ⟨Nat.le_of_ble_eq_true rfl, Nat.le_of_ble_eq_true rfl⟩ rfl ?_
  obtain ⟨h8, e_h8, hF⟩ := lt_e hF
  refine x_hp (h2 := h8) e_h8 ?_
  refine x_u (u2 := (4, 199)) rfl ?_
  refine x_putAF (b := 41) fk_X1_24 dX1_init_38 rfl rfl (fun _ _ _ h9 => by cases h9; rfl) rfl 4 rfl ?_
  obtain ⟨h9, e_h9, hF⟩ := lt_e hF
  refine x_hp (h2 := h9) e_h9 ?_
  refine x_return dX1_init_41 rfl ⟨Nat.le_of_ble_eq_true rfl, Nat.le_of_ble_eq_true rfl⟩ ?_
  cases hF
  exact ⟨rfl, rfl⟩
set_option maxHeartbeats 4000000 in
set_option maxRecDepth 100000 in
theorem u_X1_init_u (E : xE) (d : Nat) (r : Int × Hp) : ∀ n : Nat, (∀ (x0 : Int) (h : Hp), g_X1_init_u n 0 [x0] h = some r → X E mX1_init (d + 1) (4, 199) (0, 0) 0 [some (xr 1 x0)] [] h (PuV r)) := by
  intro n
  induction n with
  | zero => exact fun _ _ hF => no_e (r := r) hF
  | succ n ih => exact fun x0 h hF => t_X1_init_u_0 E d (g_X1_init_u n) r  x0 h hF
theorem c_X1_init_u (d : Nat) (x0 : Int) (h : Hp) (r : Int × Hp) (hF : f_X1_init_u x0 h = some r) : Sp mX1_init (d + 1) (4, 199) [xr 1 x0] h (PuV r) :=
  sp_of (by decide) rfl (Nat.le_of_ble_eq_true rfl) (ls := [some (xr 1 x0)]) rfl (fun E _ => (u_X1_init_u E d r FU) x0 h hF)
theorem dX3_init_0 : decode cX3_init 0 = .ok (.aload_n 0, 1) := by decide +kernel
theorem dX3_init_1 : decode cX3_init 1 = .ok (.invokespecial 3, 3) := by decide +kernel
theorem dX3_init_4 : decode cX3_init 4 = .ok (.aload_n 0, 1) := by decide +kernel
theorem dX3_init_5 : decode cX3_init 5 = .ok (.bipush 60, 2) := by decide +kernel
theorem dX3_init_7 : decode cX3_init 7 = .ok (.newarray .int, 2) := by decide +kernel
theorem dX3_init_9 : decode cX3_init 9 = .ok (.putfield 9, 3) := by decide +kernel
theorem dX3_init_12 : decode cX3_init 12 = .ok (.aload_n 0, 1) := by decide +kernel
theorem dX3_init_13 : decode cX3_init 13 = .ok (.bipush 60, 2) := by decide +kernel
theorem dX3_init_15 : decode cX3_init 15 = .ok (.newarray .int, 2) := by decide +kernel
theorem dX3_init_17 : decode cX3_init 17 = .ok (.putfield 15, 3) := by decide +kernel
theorem dX3_init_20 : decode cX3_init 20 = .ok (.aload_n 0, 1) := by decide +kernel
theorem dX3_init_21 : decode cX3_init 21 = .ok (.bipush 60, 2) := by decide +kernel
theorem dX3_init_23 : decode cX3_init 23 = .ok (.newarray .int, 2) := by decide +kernel
theorem dX3_init_25 : decode cX3_init 25 = .ok (.putfield 18, 3) := by decide +kernel
theorem dX3_init_28 : decode cX3_init 28 = .ok (.aload_n 0, 1) := by decide +kernel
theorem dX3_init_29 : decode cX3_init 29 = .ok (.bipush 60, 2) := by decide +kernel
theorem dX3_init_31 : decode cX3_init 31 = .ok (.newarray .int, 2) := by decide +kernel
theorem dX3_init_33 : decode cX3_init 33 = .ok (.putfield 21, 3) := by decide +kernel
theorem dX3_init_36 : decode cX3_init 36 = .ok (.aload_n 0, 1) := by decide +kernel
theorem dX3_init_37 : decode cX3_init 37 = .ok (.bipush 60, 2) := by decide +kernel
theorem dX3_init_39 : decode cX3_init 39 = .ok (.newarray .int, 2) := by decide +kernel
theorem dX3_init_41 : decode cX3_init 41 = .ok (.putfield 24, 3) := by decide +kernel
theorem dX3_init_44 : decode cX3_init 44 = .ok (.return_, 1) := by decide +kernel
noncomputable def b_X3_init_u_0 (rec : Rk) (x0 : Int) (h : Hp) : Option (Int × Hp) :=
  ckp (blk h 34 x0) <|
  lt (alA h 34 x0) fun h1 =>
  lt (sR h1 3 x0 0 (some (34, x0))) fun h2 =>
  ckp (blk h2 35 x0) <|
  lt (alA h2 35 x0) fun h3 =>
  lt (sR h3 3 x0 1 (some (35, x0))) fun h4 =>
  ckp (blk h4 36 x0) <|
  lt (alA h4 36 x0) fun h5 =>
  lt (sR h5 3 x0 2 (some (36, x0))) fun h6 =>
  ckp (blk h6 37 x0) <|
  lt (alA h6 37 x0) fun h7 =>
  lt (sR h7 3 x0 3 (some (37, x0))) fun h8 =>
  ckp (blk h8 38 x0) <|
  lt (alA h8 38 x0) fun h9 =>
  lt (sR h9 3 x0 4 (some (38, x0))) fun h10 =>
  some (0, h10)
noncomputable def g_X3_init_u (n : Nat) : Rk := Nat.rec (motive := fun _ => Rk) (fun _ _ _ => none) (fun _ rec k l h => if k = 0 then b_X3_init_u_0 rec (l.getD 0 0) h else none) n
noncomputable def f_X3_init_u (x0 : Int) (h : Hp) : Option (Int × Hp) := g_X3_init_u FU 0 [x0] h
set_option maxHeartbeats 4000000 in
set_option maxRecDepth 100000 in
theorem t_X3_init_u_0 (E : xE) (d : Nat) (rec : Rk) (r : Int × Hp) (x0 : Int) (h : Hp) (hF : b_X3_init_u_0 rec x0 h = some r) : X E mX3_init (d + 1) (5, 300) (0, 0) 0 [some (xr 3 x0)] [] h (PuV r) := by
  unfold b_X3_init_u_0 at hF
  refine x_aload_n (i := 0) (b := 1) dX3_init_0 rfl rfl rfl ?_
  refine x_objInit (b := 4) dX3_init_1 ki_709 ki_146 ki_147 (Nat.le_of_ble_eq_true rfl) rfl ?_
  refine x_aload_n (i := 0) (b := 5) dX3_init_4 rfl rfl rfl ?_
  refine x_bipush (n := 60) (b := 7) dX3_init_5 (by decide) rfl ?_
  obtain ⟨hs, hF⟩ := ckp_e hF
  refine x_newa (r := 34) (i := x0) (N := 60) (b := 9) dX3_init_7 ak_34 (by decide) rfl rfl ki_223 rfl rfl (by decide) (fun C h9 => by cases h9) hs ⟨Nat.le_of_ble_eq_true rfl, Nat.le_of_ble_eq_true rfl⟩ rfl ?_
  obtain ⟨h1, e_h1, hF⟩ := lt_e hF
  refine x_hp (h2 := h1) e_h1 ?_
  refine x_u (u2 := (1, 60)) rfl ?_
  refine x_putAF (b := 12) fk_X3_9 dX3_init_9 rfl rfl (fun _ _ _ h9 => by cases h9; rfl) rfl 0 rfl ?_
  obtain ⟨h2, e_h2, hF⟩ := lt_e hF
  refine x_hp (h2 := h2) e_h2 ?_
  refine x_aload_n (i := 0) (b := 13) dX3_init_12 rfl rfl rfl ?_
  refine x_bipush (n := 60) (b := 15) dX3_init_13 (by decide) rfl ?_
  obtain ⟨hs, hF⟩ := ckp_e hF
  refine x_newa (r := 35) (i := x0) (N := 60) (b := 17) dX3_init_15 ak_35 (by decide) rfl rfl ki_223 rfl rfl (by decide) (fun C h9 => by cases h9) hs ⟨Nat.le_of_ble_eq_true rfl, Nat.le_of_ble_eq_true rfl⟩ rfl ?_
  obtain ⟨h3, e_h3, hF⟩ := lt_e hF
  refine x_hp (h2 := h3) e_h3 ?_
  refine x_u (u2 := (2, 120)) rfl ?_
  refine x_putAF (b := 20) fk_X3_15 dX3_init_17 rfl rfl (fun _ _ _ h9 => by cases h9; rfl) rfl 1 rfl ?_
  obtain ⟨h4, e_h4, hF⟩ := lt_e hF
  refine x_hp (h2 := h4) e_h4 ?_
  refine x_aload_n (i := 0) (b := 21) dX3_init_20 rfl rfl rfl ?_
  refine x_bipush (n := 60) (b := 23) dX3_init_21 (by decide) rfl ?_
  obtain ⟨hs, hF⟩ := ckp_e hF
  refine x_newa (r := 36) (i := x0) (N := 60) (b := 25) dX3_init_23 ak_36 (by decide) rfl rfl ki_223 rfl rfl (by decide) (fun C h9 => by cases h9) hs ⟨Nat.le_of_ble_eq_true rfl, Nat.le_of_ble_eq_true rfl⟩ rfl ?_
  obtain ⟨h5, e_h5, hF⟩ := lt_e hF
  refine x_hp (h2 := h5) e_h5 ?_
  refine x_u (u2 := (3, 180)) rfl ?_
  refine x_putAF (b := 28) fk_X3_18 dX3_init_25 rfl rfl (fun _ _ _ h9 => by cases h9; rfl) rfl 2 rfl ?_
  obtain ⟨h6, e_h6, hF⟩ := lt_e hF
  refine x_hp (h2 := h6) e_h6 ?_
  refine x_aload_n (i := 0) (b := 29) dX3_init_28 rfl rfl rfl ?_
  refine x_bipush (n := 60) (b := 31) dX3_init_29 (by decide) rfl ?_
  obtain ⟨hs, hF⟩ := ckp_e hF
  refine x_newa (r := 37) (i := x0) (N := 60) (b := 33) dX3_init_31 ak_37 (by decide) rfl rfl ki_223 rfl rfl (by decide) (fun C h9 => by cases h9) hs ⟨Nat.le_of_ble_eq_true rfl, Nat.le_of_ble_eq_true rfl⟩ rfl ?_
  obtain ⟨h7, e_h7, hF⟩ := lt_e hF
  refine x_hp (h2 := h7) e_h7 ?_
  refine x_u (u2 := (4, 240)) rfl ?_
  refine x_putAF (b := 36) fk_X3_21 dX3_init_33 rfl rfl (fun _ _ _ h9 => by cases h9; rfl) rfl 3 rfl ?_
  obtain ⟨h8, e_h8, hF⟩ := lt_e hF
  refine x_hp (h2 := h8) e_h8 ?_
  refine x_aload_n (i := 0) (b := 37) dX3_init_36 rfl rfl rfl ?_
  refine x_bipush (n := 60) (b := 39) dX3_init_37 (by decide) rfl ?_
  obtain ⟨hs, hF⟩ := ckp_e hF
  refine x_newa (r := 38) (i := x0) (N := 60) (b := 41) dX3_init_39 ak_38 (by decide) rfl rfl ki_223 rfl rfl (by decide) (fun C h9 => by cases h9) hs ⟨Nat.le_of_ble_eq_true rfl, Nat.le_of_ble_eq_true rfl⟩ rfl ?_
  obtain ⟨h9, e_h9, hF⟩ := lt_e hF
  refine x_hp (h2 := h9) e_h9 ?_
  refine x_u (u2 := (5, 300)) rfl ?_
  refine x_putAF (b := 44) fk_X3_24 dX3_init_41 rfl rfl (fun _ _ _ h9 => by cases h9; rfl) rfl 4 rfl ?_
  obtain ⟨h10, e_h10, hF⟩ := lt_e hF
  refine x_hp (h2 := h10) e_h10 ?_
  refine x_return dX3_init_44 rfl ⟨Nat.le_of_ble_eq_true rfl, Nat.le_of_ble_eq_true rfl⟩ ?_
  cases hF
  exact ⟨rfl, rfl⟩
set_option maxHeartbeats 4000000 in
set_option maxRecDepth 100000 in
theorem u_X3_init_u (E : xE) (d : Nat) (r : Int × Hp) : ∀ n : Nat, (∀ (x0 : Int) (h : Hp), g_X3_init_u n 0 [x0] h = some r → X E mX3_init (d + 1) (5, 300) (0, 0) 0 [some (xr 3 x0)] [] h (PuV r)) := by
  intro n
  induction n with
  | zero => exact fun _ _ hF => no_e (r := r) hF
  | succ n ih => exact fun x0 h hF => t_X3_init_u_0 E d (g_X3_init_u n) r  x0 h hF
theorem c_X3_init_u (d : Nat) (x0 : Int) (h : Hp) (r : Int × Hp) (hF : f_X3_init_u x0 h = some r) : Sp mX3_init (d + 1) (5, 300) [xr 3 x0] h (PuV r) :=
  sp_of (by decide) rfl (Nat.le_of_ble_eq_true rfl) (ls := [some (xr 3 x0)]) rfl (fun E _ => (u_X3_init_u E d r FU) x0 h hF)
theorem dX4_init_0 : decode cX4_init 0 = .ok (.aload_n 0, 1) := by decide +kernel
theorem dX4_init_1 : decode cX4_init 1 = .ok (.invokespecial 3, 3) := by decide +kernel
theorem dX4_init_4 : decode cX4_init 4 = .ok (.aload_n 0, 1) := by decide +kernel
theorem dX4_init_5 : decode cX4_init 5 = .ok (.iconst 0, 1) := by decide +kernel
theorem dX4_init_6 : decode cX4_init 6 = .ok (.putfield 9, 3) := by decide +kernel
theorem dX4_init_9 : decode cX4_init 9 = .ok (.aload_n 0, 1) := by decide +kernel
theorem dX4_init_10 : decode cX4_init 10 = .ok (.iconst 0, 1) := by decide +kernel
theorem dX4_init_11 : decode cX4_init 11 = .ok (.putfield 15, 3) := by decide +kernel
theorem dX4_init_14 : decode cX4_init 14 = .ok (.aload_n 0, 1) := by decide +kernel
theorem dX4_init_15 : decode cX4_init 15 = .ok (.iconst 0, 1) := by decide +kernel
theorem dX4_init_16 : decode cX4_init 16 = .ok (.putfield 18, 3) := by decide +kernel
theorem dX4_init_19 : decode cX4_init 19 = .ok (.aload_n 0, 1) := by decide +kernel
theorem dX4_init_20 : decode cX4_init 20 = .ok (.iconst 0, 1) := by decide +kernel
theorem dX4_init_21 : decode cX4_init 21 = .ok (.putfield 21, 3) := by decide +kernel
theorem dX4_init_24 : decode cX4_init 24 = .ok (.aload_n 0, 1) := by decide +kernel
theorem dX4_init_25 : decode cX4_init 25 = .ok (.iconst 0, 1) := by decide +kernel
theorem dX4_init_26 : decode cX4_init 26 = .ok (.putfield 24, 3) := by decide +kernel
theorem dX4_init_29 : decode cX4_init 29 = .ok (.aload_n 0, 1) := by decide +kernel
theorem dX4_init_30 : decode cX4_init 30 = .ok (.iconst 0, 1) := by decide +kernel
theorem dX4_init_31 : decode cX4_init 31 = .ok (.putfield 27, 3) := by decide +kernel
theorem dX4_init_34 : decode cX4_init 34 = .ok (.aload_n 0, 1) := by decide +kernel
theorem dX4_init_35 : decode cX4_init 35 = .ok (.iconst 0, 1) := by decide +kernel
theorem dX4_init_36 : decode cX4_init 36 = .ok (.putfield 30, 3) := by decide +kernel
theorem dX4_init_39 : decode cX4_init 39 = .ok (.aload_n 0, 1) := by decide +kernel
theorem dX4_init_40 : decode cX4_init 40 = .ok (.iconst 0, 1) := by decide +kernel
theorem dX4_init_41 : decode cX4_init 41 = .ok (.putfield 33, 3) := by decide +kernel
theorem dX4_init_44 : decode cX4_init 44 = .ok (.aload_n 0, 1) := by decide +kernel
theorem dX4_init_45 : decode cX4_init 45 = .ok (.iconst 0, 1) := by decide +kernel
theorem dX4_init_46 : decode cX4_init 46 = .ok (.putfield 36, 3) := by decide +kernel
theorem dX4_init_49 : decode cX4_init 49 = .ok (.aload_n 0, 1) := by decide +kernel
theorem dX4_init_50 : decode cX4_init 50 = .ok (.iconst 0, 1) := by decide +kernel
theorem dX4_init_51 : decode cX4_init 51 = .ok (.putfield 39, 3) := by decide +kernel
theorem dX4_init_54 : decode cX4_init 54 = .ok (.return_, 1) := by decide +kernel
noncomputable def b_X4_init_u_0 (rec : Rk) (x0 : Int) (h : Hp) : Option (Int × Hp) :=
  lt (sI h 4 x0 0 0) fun h1 =>
  lt (sI h1 4 x0 1 0) fun h2 =>
  lt (sI h2 4 x0 2 0) fun h3 =>
  lt (sI h3 4 x0 3 0) fun h4 =>
  lt (sI h4 4 x0 4 0) fun h5 =>
  lt (sI h5 4 x0 5 0) fun h6 =>
  lt (sI h6 4 x0 6 0) fun h7 =>
  lt (sI h7 4 x0 7 0) fun h8 =>
  lt (sI h8 4 x0 8 0) fun h9 =>
  lt (sI h9 4 x0 9 0) fun h10 =>
  some (0, h10)
noncomputable def g_X4_init_u (n : Nat) : Rk := Nat.rec (motive := fun _ => Rk) (fun _ _ _ => none) (fun _ rec k l h => if k = 0 then b_X4_init_u_0 rec (l.getD 0 0) h else none) n
noncomputable def f_X4_init_u (x0 : Int) (h : Hp) : Option (Int × Hp) := g_X4_init_u FU 0 [x0] h
set_option maxHeartbeats 4000000 in
set_option maxRecDepth 100000 in
theorem t_X4_init_u_0 (E : xE) (d : Nat) (rec : Rk) (r : Int × Hp) (x0 : Int) (h : Hp) (hF : b_X4_init_u_0 rec x0 h = some r) : X E mX4_init (d + 1) (0, 0) (0, 0) 0 [some (xr 4 x0)] [] h (PuV r) := by
  unfold b_X4_init_u_0 at hF
  refine x_aload_n (i := 0) (b := 1) dX4_init_0 rfl rfl rfl ?_
  refine x_objInit (b := 4) dX4_init_1 ki_257 ki_146 ki_147 (Nat.le_of_ble_eq_true rfl) rfl ?_
  refine x_aload_n (i := 0) (b := 5) dX4_init_4 rfl rfl rfl ?_
  refine x_iconst (n := 0) (b := 6) dX4_init_5 (by decide) rfl ?_
  refine x_putI (b := 9) fk_X4_9 dX4_init_6 rfl rfl 0 rfl ?_
  obtain ⟨h1, e_h1, hF⟩ := lt_e hF
  refine x_hp (h2 := h1) e_h1 ?_
  refine x_aload_n (i := 0) (b := 10) dX4_init_9 rfl rfl rfl ?_
  refine x_iconst (n := 0) (b := 11) dX4_init_10 (by decide) rfl ?_
  refine x_putI (b := 14) fk_X4_15 dX4_init_11 rfl rfl 1 rfl ?_
  obtain ⟨h2, e_h2, hF⟩ := lt_e hF
  refine x_hp (h2 := h2) e_h2 ?_
  refine x_aload_n (i := 0) (b := 15) dX4_init_14 rfl rfl rfl ?_
  refine x_iconst (n := 0) (b := 16) dX4_init_15 (by decide) rfl ?_
  refine x_putI (b := 19) fk_X4_18 dX4_init_16 rfl rfl 2 rfl ?_
  obtain ⟨h3, e_h3, hF⟩ := lt_e hF
  refine x_hp (h2 := h3) e_h3 ?_
  refine x_aload_n (i := 0) (b := 20) dX4_init_19 rfl rfl rfl ?_
  refine x_iconst (n := 0) (b := 21) dX4_init_20 (by decide) rfl ?_
  refine x_putI (b := 24) fk_X4_21 dX4_init_21 rfl rfl 3 rfl ?_
  obtain ⟨h4, e_h4, hF⟩ := lt_e hF
  refine x_hp (h2 := h4) e_h4 ?_
  refine x_aload_n (i := 0) (b := 25) dX4_init_24 rfl rfl rfl ?_
  refine x_iconst (n := 0) (b := 26) dX4_init_25 (by decide) rfl ?_
  refine x_putI (b := 29) fk_X4_24 dX4_init_26 rfl rfl 4 rfl ?_
  obtain ⟨h5, e_h5, hF⟩ := lt_e hF
  refine x_hp (h2 := h5) e_h5 ?_
  refine x_aload_n (i := 0) (b := 30) dX4_init_29 rfl rfl rfl ?_
  refine x_iconst (n := 0) (b := 31) dX4_init_30 (by decide) rfl ?_
  refine x_putI (b := 34) fk_X4_27 dX4_init_31 rfl rfl 5 rfl ?_
  obtain ⟨h6, e_h6, hF⟩ := lt_e hF
  refine x_hp (h2 := h6) e_h6 ?_
  refine x_aload_n (i := 0) (b := 35) dX4_init_34 rfl rfl rfl ?_
  refine x_iconst (n := 0) (b := 36) dX4_init_35 (by decide) rfl ?_
  refine x_putI (b := 39) fk_X4_30 dX4_init_36 rfl rfl 6 rfl ?_
  obtain ⟨h7, e_h7, hF⟩ := lt_e hF
  refine x_hp (h2 := h7) e_h7 ?_
  refine x_aload_n (i := 0) (b := 40) dX4_init_39 rfl rfl rfl ?_
  refine x_iconst (n := 0) (b := 41) dX4_init_40 (by decide) rfl ?_
  refine x_putI (b := 44) fk_X4_33 dX4_init_41 rfl rfl 7 rfl ?_
  obtain ⟨h8, e_h8, hF⟩ := lt_e hF
  refine x_hp (h2 := h8) e_h8 ?_
  refine x_aload_n (i := 0) (b := 45) dX4_init_44 rfl rfl rfl ?_
  refine x_iconst (n := 0) (b := 46) dX4_init_45 (by decide) rfl ?_
  refine x_putI (b := 49) fk_X4_36 dX4_init_46 rfl rfl 8 rfl ?_
  obtain ⟨h9, e_h9, hF⟩ := lt_e hF
  refine x_hp (h2 := h9) e_h9 ?_
  refine x_aload_n (i := 0) (b := 50) dX4_init_49 rfl rfl rfl ?_
  refine x_iconst (n := 0) (b := 51) dX4_init_50 (by decide) rfl ?_
  refine x_putI (b := 54) fk_X4_39 dX4_init_51 rfl rfl 9 rfl ?_
  obtain ⟨h10, e_h10, hF⟩ := lt_e hF
  refine x_hp (h2 := h10) e_h10 ?_
  refine x_return dX4_init_54 rfl ⟨Nat.le_of_ble_eq_true rfl, Nat.le_of_ble_eq_true rfl⟩ ?_
  cases hF
  exact ⟨rfl, rfl⟩
set_option maxHeartbeats 4000000 in
set_option maxRecDepth 100000 in
theorem u_X4_init_u (E : xE) (d : Nat) (r : Int × Hp) : ∀ n : Nat, (∀ (x0 : Int) (h : Hp), g_X4_init_u n 0 [x0] h = some r → X E mX4_init (d + 1) (0, 0) (0, 0) 0 [some (xr 4 x0)] [] h (PuV r)) := by
  intro n
  induction n with
  | zero => exact fun _ _ hF => no_e (r := r) hF
  | succ n ih => exact fun x0 h hF => t_X4_init_u_0 E d (g_X4_init_u n) r  x0 h hF
theorem c_X4_init_u (d : Nat) (x0 : Int) (h : Hp) (r : Int × Hp) (hF : f_X4_init_u x0 h = some r) : Sp mX4_init (d + 1) (0, 0) [xr 4 x0] h (PuV r) :=
  sp_of (by decide) rfl (Nat.le_of_ble_eq_true rfl) (ls := [some (xr 4 x0)]) rfl (fun E _ => (u_X4_init_u E d r FU) x0 h hF)
theorem dX5_init_0 : decode cX5_init 0 = .ok (.aload_n 0, 1) := by decide +kernel
theorem dX5_init_1 : decode cX5_init 1 = .ok (.invokespecial 3, 3) := by decide +kernel
theorem dX5_init_4 : decode cX5_init 4 = .ok (.aload_n 0, 1) := by decide +kernel
theorem dX5_init_5 : decode cX5_init 5 = .ok (.bipush 32, 2) := by decide +kernel
theorem dX5_init_7 : decode cX5_init 7 = .ok (.newarray .int, 2) := by decide +kernel
theorem dX5_init_9 : decode cX5_init 9 = .ok (.putfield 11, 3) := by decide +kernel
theorem dX5_init_12 : decode cX5_init 12 = .ok (.aload_n 0, 1) := by decide +kernel
theorem dX5_init_13 : decode cX5_init 13 = .ok (.bipush 32, 2) := by decide +kernel
theorem dX5_init_15 : decode cX5_init 15 = .ok (.newarray .int, 2) := by decide +kernel
theorem dX5_init_17 : decode cX5_init 17 = .ok (.putfield 15, 3) := by decide +kernel
theorem dX5_init_20 : decode cX5_init 20 = .ok (.aload_n 0, 1) := by decide +kernel
theorem dX5_init_21 : decode cX5_init 21 = .ok (.bipush 32, 2) := by decide +kernel
theorem dX5_init_23 : decode cX5_init 23 = .ok (.newarray .int, 2) := by decide +kernel
theorem dX5_init_25 : decode cX5_init 25 = .ok (.putfield 18, 3) := by decide +kernel
theorem dX5_init_28 : decode cX5_init 28 = .ok (.aload_n 0, 1) := by decide +kernel
theorem dX5_init_29 : decode cX5_init 29 = .ok (.bipush 32, 2) := by decide +kernel
theorem dX5_init_31 : decode cX5_init 31 = .ok (.newarray .boolean, 2) := by decide +kernel
theorem dX5_init_33 : decode cX5_init 33 = .ok (.putfield 21, 3) := by decide +kernel
theorem dX5_init_36 : decode cX5_init 36 = .ok (.aload_n 0, 1) := by decide +kernel
theorem dX5_init_37 : decode cX5_init 37 = .ok (.iconst 0, 1) := by decide +kernel
theorem dX5_init_38 : decode cX5_init 38 = .ok (.putfield 25, 3) := by decide +kernel
theorem dX5_init_41 : decode cX5_init 41 = .ok (.aload_n 0, 1) := by decide +kernel
theorem dX5_init_42 : decode cX5_init 42 = .ok (.iconst (-1), 1) := by decide +kernel
theorem dX5_init_43 : decode cX5_init 43 = .ok (.putfield 29, 3) := by decide +kernel
theorem dX5_init_46 : decode cX5_init 46 = .ok (.return_, 1) := by decide +kernel
noncomputable def b_X5_init_u_0 (rec : Rk) (h : Hp) : Option (Int × Hp) :=
  ckp (blk h 39 0) <|
  lt (alA h 39 0) fun h1 =>
  lt (sR h1 5 0 0 (some (39, 0))) fun h2 =>
  ckp (blk h2 40 0) <|
  lt (alA h2 40 0) fun h3 =>
  lt (sR h3 5 0 1 (some (40, 0))) fun h4 =>
  ckp (blk h4 41 0) <|
  lt (alA h4 41 0) fun h5 =>
  lt (sR h5 5 0 2 (some (41, 0))) fun h6 =>
  ckp (blk h6 42 0) <|
  lt (alA h6 42 0) fun h7 =>
  lt (sR h7 5 0 3 (some (42, 0))) fun h8 =>
  lt (sI h8 5 0 4 0) fun h9 =>
  lt (sI h9 5 0 5 (-1)) fun h10 =>
  some (0, h10)
noncomputable def g_X5_init_u (n : Nat) : Rk := Nat.rec (motive := fun _ => Rk) (fun _ _ _ => none) (fun _ rec k l h => if k = 0 then b_X5_init_u_0 rec  h else none) n
noncomputable def f_X5_init_u (h : Hp) : Option (Int × Hp) := g_X5_init_u FU 0 [] h
set_option maxHeartbeats 4000000 in
set_option maxRecDepth 100000 in
theorem t_X5_init_u_0 (E : xE) (d : Nat) (rec : Rk) (r : Int × Hp) (h : Hp) (hF : b_X5_init_u_0 rec  h = some r) : X E mX5_init (d + 1) (4, 128) (0, 0) 0 [some (xr 5 0)] [] h (PuV r) := by
  unfold b_X5_init_u_0 at hF
  refine x_aload_n (i := 0) (b := 1) dX5_init_0 rfl rfl rfl ?_
  refine x_objInit (b := 4) dX5_init_1 ki_736 ki_146 ki_147 (Nat.le_of_ble_eq_true rfl) rfl ?_
  refine x_aload_n (i := 0) (b := 5) dX5_init_4 rfl rfl rfl ?_
  refine x_bipush (n := 32) (b := 7) dX5_init_5 (by decide) rfl ?_
  obtain ⟨hs, hF⟩ := ckp_e hF
  refine x_newa (r := 39) (i := 0) (N := 32) (b := 9) dX5_init_7 ak_39 (by decide) rfl rfl ki_223 rfl rfl (by decide) (fun C h9 => by cases h9) hs ⟨Nat.le_of_ble_eq_true rfl, Nat.le_of_ble_eq_true rfl⟩ rfl ?_
  obtain ⟨h1, e_h1, hF⟩ := lt_e hF
  refine x_hp (h2 := h1) e_h1 ?_
  refine x_u (u2 := (1, 32)) rfl ?_
  refine x_putAF (b := 12) fk_X5_11 dX5_init_9 rfl rfl (fun _ _ _ h9 => by cases h9; rfl) rfl 0 rfl ?_
  obtain ⟨h2, e_h2, hF⟩ := lt_e hF
  refine x_hp (h2 := h2) e_h2 ?_
  refine x_aload_n (i := 0) (b := 13) dX5_init_12 rfl rfl rfl ?_
  refine x_bipush (n := 32) (b := 15) dX5_init_13 (by decide) rfl ?_
  obtain ⟨hs, hF⟩ := ckp_e hF
  refine x_newa (r := 40) (i := 0) (N := 32) (b := 17) dX5_init_15 ak_40 (by decide) rfl rfl ki_223 rfl rfl (by decide) (fun C h9 => by cases h9) hs ⟨Nat.le_of_ble_eq_true rfl, Nat.le_of_ble_eq_true rfl⟩ rfl ?_
  obtain ⟨h3, e_h3, hF⟩ := lt_e hF
  refine x_hp (h2 := h3) e_h3 ?_
  refine x_u (u2 := (2, 64)) rfl ?_
  refine x_putAF (b := 20) fk_X5_15 dX5_init_17 rfl rfl (fun _ _ _ h9 => by cases h9; rfl) rfl 1 rfl ?_
  obtain ⟨h4, e_h4, hF⟩ := lt_e hF
  refine x_hp (h2 := h4) e_h4 ?_
  refine x_aload_n (i := 0) (b := 21) dX5_init_20 rfl rfl rfl ?_
  refine x_bipush (n := 32) (b := 23) dX5_init_21 (by decide) rfl ?_
  obtain ⟨hs, hF⟩ := ckp_e hF
  refine x_newa (r := 41) (i := 0) (N := 32) (b := 25) dX5_init_23 ak_41 (by decide) rfl rfl ki_223 rfl rfl (by decide) (fun C h9 => by cases h9) hs ⟨Nat.le_of_ble_eq_true rfl, Nat.le_of_ble_eq_true rfl⟩ rfl ?_
  obtain ⟨h5, e_h5, hF⟩ := lt_e hF
  refine x_hp (h2 := h5) e_h5 ?_
  refine x_u (u2 := (3, 96)) rfl ?_
  refine x_putAF (b := 28) fk_X5_18 dX5_init_25 rfl rfl (fun _ _ _ h9 => by cases h9; rfl) rfl 2 rfl ?_
  obtain ⟨h6, e_h6, hF⟩ := lt_e hF
  refine x_hp (h2 := h6) e_h6 ?_
  refine x_aload_n (i := 0) (b := 29) dX5_init_28 rfl rfl rfl ?_
  refine x_bipush (n := 32) (b := 31) dX5_init_29 (by decide) rfl ?_
  obtain ⟨hs, hF⟩ := ckp_e hF
  refine x_newa (r := 42) (i := 0) (N := 32) (b := 33) dX5_init_31 ak_42 (by decide) rfl rfl ki_758 rfl rfl (by decide) (fun C h9 => by cases h9) hs ⟨Nat.le_of_ble_eq_true rfl, Nat.le_of_ble_eq_true rfl⟩ rfl ?_
  obtain ⟨h7, e_h7, hF⟩ := lt_e hF
  refine x_hp (h2 := h7) e_h7 ?_
  refine x_u (u2 := (4, 128)) rfl ?_
  refine x_putAF (b := 36) fk_X5_21 dX5_init_33 rfl rfl (fun _ _ _ h9 => by cases h9; rfl) rfl 3 rfl ?_
  obtain ⟨h8, e_h8, hF⟩ := lt_e hF
  refine x_hp (h2 := h8) e_h8 ?_
  refine x_aload_n (i := 0) (b := 37) dX5_init_36 rfl rfl rfl ?_
  refine x_iconst (n := 0) (b := 38) dX5_init_37 (by decide) rfl ?_
  refine x_putI (b := 41) fk_X5_25 dX5_init_38 rfl rfl 4 rfl ?_
  obtain ⟨h9, e_h9, hF⟩ := lt_e hF
  refine x_hp (h2 := h9) e_h9 ?_
  refine x_aload_n (i := 0) (b := 42) dX5_init_41 rfl rfl rfl ?_
  refine x_iconst (n := (-1)) (b := 43) dX5_init_42 (by decide) rfl ?_
  refine x_putI (b := 46) fk_X5_29 dX5_init_43 rfl rfl 5 rfl ?_
  obtain ⟨h10, e_h10, hF⟩ := lt_e hF
  refine x_hp (h2 := h10) e_h10 ?_
  refine x_return dX5_init_46 rfl ⟨Nat.le_of_ble_eq_true rfl, Nat.le_of_ble_eq_true rfl⟩ ?_
  cases hF
  exact ⟨rfl, rfl⟩
set_option maxHeartbeats 4000000 in
set_option maxRecDepth 100000 in
theorem u_X5_init_u (E : xE) (d : Nat) (r : Int × Hp) : ∀ n : Nat, (∀ (h : Hp), g_X5_init_u n 0 [] h = some r → X E mX5_init (d + 1) (4, 128) (0, 0) 0 [some (xr 5 0)] [] h (PuV r)) := by
  intro n
  induction n with
  | zero => exact fun _ hF => no_e (r := r) hF
  | succ n ih => exact fun h hF => t_X5_init_u_0 E d (g_X5_init_u n) r   h hF
theorem c_X5_init_u (d : Nat) (h : Hp) (r : Int × Hp) (hF : f_X5_init_u  h = some r) : Sp mX5_init (d + 1) (4, 128) [xr 5 0] h (PuV r) :=
  sp_of (by decide) rfl (Nat.le_of_ble_eq_true rfl) (ls := [some (xr 5 0)]) rfl (fun E _ => (u_X5_init_u E d r FU)  h hF)
theorem dX9_init_0 : decode cX9_init 0 = .ok (.aload_n 0, 1) := by decide +kernel
theorem dX9_init_1 : decode cX9_init 1 = .ok (.invokespecial 3, 3) := by decide +kernel
theorem dX9_init_4 : decode cX9_init 4 = .ok (.aload_n 0, 1) := by decide +kernel
theorem dX9_init_5 : decode cX9_init 5 = .ok (.iconst 4, 1) := by decide +kernel
theorem dX9_init_6 : decode cX9_init 6 = .ok (.putfield 9, 3) := by decide +kernel
theorem dX9_init_9 : decode cX9_init 9 = .ok (.aload_n 0, 1) := by decide +kernel
theorem dX9_init_10 : decode cX9_init 10 = .ok (.iconst 4, 1) := by decide +kernel
theorem dX9_init_11 : decode cX9_init 11 = .ok (.putfield 15, 3) := by decide +kernel
theorem dX9_init_14 : decode cX9_init 14 = .ok (.aload_n 0, 1) := by decide +kernel
theorem dX9_init_15 : decode cX9_init 15 = .ok (.lconst 0, 1) := by decide +kernel
theorem dX9_init_16 : decode cX9_init 16 = .ok (.putfield 18, 3) := by decide +kernel
theorem dX9_init_19 : decode cX9_init 19 = .ok (.aload_n 0, 1) := by decide +kernel
theorem dX9_init_20 : decode cX9_init 20 = .ok (.iconst 0, 1) := by decide +kernel
theorem dX9_init_21 : decode cX9_init 21 = .ok (.putfield 22, 3) := by decide +kernel
theorem dX9_init_24 : decode cX9_init 24 = .ok (.aload_n 0, 1) := by decide +kernel
theorem dX9_init_25 : decode cX9_init 25 = .ok (.iconst 0, 1) := by decide +kernel
theorem dX9_init_26 : decode cX9_init 26 = .ok (.putfield 25, 3) := by decide +kernel
theorem dX9_init_29 : decode cX9_init 29 = .ok (.aload_n 0, 1) := by decide +kernel
theorem dX9_init_30 : decode cX9_init 30 = .ok (.iconst 0, 1) := by decide +kernel
theorem dX9_init_31 : decode cX9_init 31 = .ok (.putfield 28, 3) := by decide +kernel
theorem dX9_init_34 : decode cX9_init 34 = .ok (.aload_n 0, 1) := by decide +kernel
theorem dX9_init_35 : decode cX9_init 35 = .ok (.iconst 0, 1) := by decide +kernel
theorem dX9_init_36 : decode cX9_init 36 = .ok (.putfield 31, 3) := by decide +kernel
theorem dX9_init_39 : decode cX9_init 39 = .ok (.aload_n 0, 1) := by decide +kernel
theorem dX9_init_40 : decode cX9_init 40 = .ok (.iconst 3, 1) := by decide +kernel
theorem dX9_init_41 : decode cX9_init 41 = .ok (.newarray .int, 2) := by decide +kernel
theorem dX9_init_43 : decode cX9_init 43 = .ok (.putfield 34, 3) := by decide +kernel
theorem dX9_init_46 : decode cX9_init 46 = .ok (.aload_n 0, 1) := by decide +kernel
theorem dX9_init_47 : decode cX9_init 47 = .ok (.iconst 3, 1) := by decide +kernel
theorem dX9_init_48 : decode cX9_init 48 = .ok (.newarray .int, 2) := by decide +kernel
theorem dX9_init_50 : decode cX9_init 50 = .ok (.putfield 38, 3) := by decide +kernel
theorem dX9_init_53 : decode cX9_init 53 = .ok (.aload_n 0, 1) := by decide +kernel
theorem dX9_init_54 : decode cX9_init 54 = .ok (.iconst 3, 1) := by decide +kernel
theorem dX9_init_55 : decode cX9_init 55 = .ok (.newarray .int, 2) := by decide +kernel
theorem dX9_init_57 : decode cX9_init 57 = .ok (.putfield 41, 3) := by decide +kernel
theorem dX9_init_60 : decode cX9_init 60 = .ok (.aload_n 0, 1) := by decide +kernel
theorem dX9_init_61 : decode cX9_init 61 = .ok (.iconst 3, 1) := by decide +kernel
theorem dX9_init_62 : decode cX9_init 62 = .ok (.newarray .int, 2) := by decide +kernel
theorem dX9_init_64 : decode cX9_init 64 = .ok (.putfield 44, 3) := by decide +kernel
theorem dX9_init_67 : decode cX9_init 67 = .ok (.aload_n 0, 1) := by decide +kernel
theorem dX9_init_68 : decode cX9_init 68 = .ok (.sipush 320, 3) := by decide +kernel
theorem dX9_init_71 : decode cX9_init 71 = .ok (.newarray .int, 2) := by decide +kernel
theorem dX9_init_73 : decode cX9_init 73 = .ok (.putfield 47, 3) := by decide +kernel
theorem dX9_init_76 : decode cX9_init 76 = .ok (.aload_n 0, 1) := by decide +kernel
theorem dX9_init_77 : decode cX9_init 77 = .ok (.bipush 64, 2) := by decide +kernel
theorem dX9_init_79 : decode cX9_init 79 = .ok (.newarray .int, 2) := by decide +kernel
theorem dX9_init_81 : decode cX9_init 81 = .ok (.putfield 50, 3) := by decide +kernel
theorem dX9_init_84 : decode cX9_init 84 = .ok (.return_, 1) := by decide +kernel
noncomputable def b_X9_init_u_0 (rec : Rk) (x0 : Int) (h : Hp) : Option (Int × Hp) :=
  lt (sI h 9 x0 0 4) fun h1 =>
  lt (sI h1 9 x0 1 4) fun h2 =>
  lt (sI h2 9 x0 2 0) fun h3 =>
  lt (sI h3 9 x0 3 0) fun h4 =>
  lt (sI h4 9 x0 4 0) fun h5 =>
  lt (sI h5 9 x0 5 0) fun h6 =>
  lt (sI h6 9 x0 6 0) fun h7 =>
  ckp (blk h7 51 x0) <|
  lt (alA h7 51 x0) fun h8 =>
  lt (sR h8 9 x0 7 (some (51, x0))) fun h9 =>
  ckp (blk h9 52 x0) <|
  lt (alA h9 52 x0) fun h10 =>
  lt (sR h10 9 x0 8 (some (52, x0))) fun h11 =>
  ckp (blk h11 53 x0) <|
  lt (alA h11 53 x0) fun h12 =>
  lt (sR h12 9 x0 9 (some (53, x0))) fun h13 =>
  ckp (blk h13 54 x0) <|
  lt (alA h13 54 x0) fun h14 =>
  lt (sR h14 9 x0 10 (some (54, x0))) fun h15 =>
  ckp (blk h15 55 x0) <|
  lt (alA h15 55 x0) fun h16 =>
  lt (sR h16 9 x0 11 (some (55, x0))) fun h17 =>
  ckp (blk h17 56 x0) <|
  lt (alA h17 56 x0) fun h18 =>
  lt (sR h18 9 x0 12 (some (56, x0))) fun h19 =>
  some (0, h19)
noncomputable def g_X9_init_u (n : Nat) : Rk := Nat.rec (motive := fun _ => Rk) (fun _ _ _ => none) (fun _ rec k l h => if k = 0 then b_X9_init_u_0 rec (l.getD 0 0) h else none) n
noncomputable def f_X9_init_u (x0 : Int) (h : Hp) : Option (Int × Hp) := g_X9_init_u FU 0 [x0] h
set_option maxHeartbeats 4000000 in
set_option maxRecDepth 100000 in
theorem t_X9_init_u_0 (E : xE) (d : Nat) (rec : Rk) (r : Int × Hp) (x0 : Int) (h : Hp) (hF : b_X9_init_u_0 rec x0 h = some r) : X E mX9_init (d + 1) (6, 396) (0, 0) 0 [some (xr 9 x0)] [] h (PuV r) := by
  unfold b_X9_init_u_0 at hF
  refine x_aload_n (i := 0) (b := 1) dX9_init_0 rfl rfl rfl ?_
  refine x_objInit (b := 4) dX9_init_1 ki_159 ki_146 ki_147 (Nat.le_of_ble_eq_true rfl) rfl ?_
  refine x_aload_n (i := 0) (b := 5) dX9_init_4 rfl rfl rfl ?_
  refine x_iconst (n := 4) (b := 6) dX9_init_5 (by decide) rfl ?_
  refine x_putI (b := 9) fk_X9_9 dX9_init_6 rfl rfl 0 rfl ?_
  obtain ⟨h1, e_h1, hF⟩ := lt_e hF
  refine x_hp (h2 := h1) e_h1 ?_
  refine x_aload_n (i := 0) (b := 10) dX9_init_9 rfl rfl rfl ?_
  refine x_iconst (n := 4) (b := 11) dX9_init_10 (by decide) rfl ?_
  refine x_putI (b := 14) fk_X9_15 dX9_init_11 rfl rfl 1 rfl ?_
  obtain ⟨h2, e_h2, hF⟩ := lt_e hF
  refine x_hp (h2 := h2) e_h2 ?_
  refine x_aload_n (i := 0) (b := 15) dX9_init_14 rfl rfl rfl ?_
  refine x_lconst (z := 0) (b := 16) dX9_init_15 rfl (by decide) rfl ?_
  refine x_putJ (b := 19) fk_X9_18 dX9_init_16 rfl rfl 2 rfl ?_
  obtain ⟨h3, e_h3, hF⟩ := lt_e hF
  refine x_hp (h2 := h3) e_h3 ?_
  refine x_aload_n (i := 0) (b := 20) dX9_init_19 rfl rfl rfl ?_
  refine x_iconst (n := 0) (b := 21) dX9_init_20 (by decide) rfl ?_
  refine x_putI (b := 24) fk_X9_22 dX9_init_21 rfl rfl 3 rfl ?_
  obtain ⟨h4, e_h4, hF⟩ := lt_e hF
  refine x_hp (h2 := h4) e_h4 ?_
  refine x_aload_n (i := 0) (b := 25) dX9_init_24 rfl rfl rfl ?_
  refine x_iconst (n := 0) (b := 26) dX9_init_25 (by decide) rfl ?_
  refine x_putI (b := 29) fk_X9_25 dX9_init_26 rfl rfl 4 rfl ?_
  obtain ⟨h5, e_h5, hF⟩ := lt_e hF
  refine x_hp (h2 := h5) e_h5 ?_
  refine x_aload_n (i := 0) (b := 30) dX9_init_29 rfl rfl rfl ?_
  refine x_iconst (n := 0) (b := 31) dX9_init_30 (by decide) rfl ?_
  refine x_putI (b := 34) fk_X9_28 dX9_init_31 rfl rfl 5 rfl ?_
  obtain ⟨h6, e_h6, hF⟩ := lt_e hF
  refine x_hp (h2 := h6) e_h6 ?_
  refine x_aload_n (i := 0) (b := 35) dX9_init_34 rfl rfl rfl ?_
  refine x_iconst (n := 0) (b := 36) dX9_init_35 (by decide) rfl ?_
  refine x_putI (b := 39) fk_X9_31 dX9_init_36 rfl rfl 6 rfl ?_
  obtain ⟨h7, e_h7, hF⟩ := lt_e hF
  refine x_hp (h2 := h7) e_h7 ?_
  refine x_aload_n (i := 0) (b := 40) dX9_init_39 rfl rfl rfl ?_
  refine x_iconst (n := 3) (b := 41) dX9_init_40 (by decide) rfl ?_
  obtain ⟨hs, hF⟩ := ckp_e hF
  refine x_newa (r := 51) (i := x0) (N := 3) (b := 43) dX9_init_41 ak_51 (by decide) rfl rfl ki_223 rfl rfl (by decide) (fun C h9 => by cases h9) hs ⟨Nat.le_of_ble_eq_true rfl, Nat.le_of_ble_eq_true rfl⟩ rfl ?_
  obtain ⟨h8, e_h8, hF⟩ := lt_e hF
  refine x_hp (h2 := h8) e_h8 ?_
  refine x_u (u2 := (1, 3)) rfl ?_
  refine x_putAF (b := 46) fk_X9_34 dX9_init_43 rfl rfl (fun _ _ _ h9 => by cases h9; rfl) rfl 7 rfl ?_
  obtain ⟨h9, e_h9, hF⟩ := lt_e hF
  refine x_hp (h2 := h9) e_h9 ?_
  refine x_aload_n (i := 0) (b := 47) dX9_init_46 rfl rfl rfl ?_
  refine x_iconst (n := 3) (b := 48) dX9_init_47 (by decide) rfl ?_
  obtain ⟨hs, hF⟩ := ckp_e hF
  refine x_newa (r := 52) (i := x0) (N := 3) (b := 50) dX9_init_48 ak_52 (by decide) rfl rfl ki_223 rfl rfl (by decide) (fun C h9 => by cases h9) hs ⟨Nat.le_of_ble_eq_true rfl, Nat.le_of_ble_eq_true rfl⟩ rfl ?_
  obtain ⟨h10, e_h10, hF⟩ := lt_e hF
  refine x_hp (h2 := h10) e_h10 ?_
  refine x_u (u2 := (2, 6)) rfl ?_
  refine x_putAF (b := 53) fk_X9_38 dX9_init_50 rfl rfl (fun _ _ _ h9 => by cases h9; rfl) rfl 8 rfl ?_
  obtain ⟨h11, e_h11, hF⟩ := lt_e hF
  refine x_hp (h2 := h11) e_h11 ?_
  refine x_aload_n (i := 0) (b := 54) dX9_init_53 rfl rfl rfl ?_
  refine x_iconst (n := 3) (b := 55) dX9_init_54 (by decide) rfl ?_
  obtain ⟨hs, hF⟩ := ckp_e hF
  refine x_newa (r := 53) (i := x0) (N := 3) (b := 57) dX9_init_55 ak_53 (by decide) rfl rfl ki_223 rfl rfl (by decide) (fun C h9 => by cases h9) hs ⟨Nat.le_of_ble_eq_true rfl, Nat.le_of_ble_eq_true rfl⟩ rfl ?_
  obtain ⟨h12, e_h12, hF⟩ := lt_e hF
  refine x_hp (h2 := h12) e_h12 ?_
  refine x_u (u2 := (3, 9)) rfl ?_
  refine x_putAF (b := 60) fk_X9_41 dX9_init_57 rfl rfl (fun _ _ _ h9 => by cases h9; rfl) rfl 9 rfl ?_
  obtain ⟨h13, e_h13, hF⟩ := lt_e hF
  refine x_hp (h2 := h13) e_h13 ?_
  refine x_aload_n (i := 0) (b := 61) dX9_init_60 rfl rfl rfl ?_
  refine x_iconst (n := 3) (b := 62) dX9_init_61 (by decide) rfl ?_
  obtain ⟨hs, hF⟩ := ckp_e hF
  refine x_newa (r := 54) (i := x0) (N := 3) (b := 64) dX9_init_62 ak_54 (by decide) rfl rfl ki_223 rfl rfl (by decide) (fun C h9 => by cases h9) hs ⟨Nat.le_of_ble_eq_true rfl, Nat.le_of_ble_eq_true rfl⟩ rfl ?_
  obtain ⟨h14, e_h14, hF⟩ := lt_e hF
  refine x_hp (h2 := h14) e_h14 ?_
  refine x_u (u2 := (4, 12)) rfl ?_
  refine x_putAF (b := 67) fk_X9_44 dX9_init_64 rfl rfl (fun _ _ _ h9 => by cases h9; rfl) rfl 10 rfl ?_
  obtain ⟨h15, e_h15, hF⟩ := lt_e hF
  refine x_hp (h2 := h15) e_h15 ?_
  refine x_aload_n (i := 0) (b := 68) dX9_init_67 rfl rfl rfl ?_
  refine x_sipush (n := 320) (b := 71) dX9_init_68 (by decide) rfl ?_
  obtain ⟨hs, hF⟩ := ckp_e hF
  refine x_newa (r := 55) (i := x0) (N := 320) (b := 73) dX9_init_71 ak_55 (by decide) rfl rfl ki_223 rfl rfl (by decide) (fun C h9 => by cases h9) hs ⟨Nat.le_of_ble_eq_true rfl, Nat.le_of_ble_eq_true rfl⟩ rfl ?_
  obtain ⟨h16, e_h16, hF⟩ := lt_e hF
  refine x_hp (h2 := h16) e_h16 ?_
  refine x_u (u2 := (5, 332)) rfl ?_
  refine x_putAF (b := 76) fk_X9_47 dX9_init_73 rfl rfl (fun _ _ _ h9 => by cases h9; rfl) rfl 11 rfl ?_
  obtain ⟨h17, e_h17, hF⟩ := lt_e hF
  refine x_hp (h2 := h17) e_h17 ?_
  refine x_aload_n (i := 0) (b := 77) dX9_init_76 rfl rfl rfl ?_
  refine x_bipush (n := 64) (b := 79) dX9_init_77 (by decide) rfl ?_
  obtain ⟨hs, hF⟩ := ckp_e hF
  refine x_newa (r := 56) (i := x0) (N := 64) (b := 81) dX9_init_79 ak_56 (by decide) rfl rfl ki_223 rfl rfl (by decide) (fun C h9 => by cases h9) hs ⟨Nat.le_of_ble_eq_true rfl, Nat.le_of_ble_eq_true rfl⟩ rfl ?_
  obtain ⟨h18, e_h18, hF⟩ := lt_e hF
  refine x_hp (h2 := h18) e_h18 ?_
  refine x_u (u2 := (6, 396)) rfl ?_
  refine x_putAF (b := 84) fk_X9_50 dX9_init_81 rfl rfl (fun _ _ _ h9 => by cases h9; rfl) rfl 12 rfl ?_
  obtain ⟨h19, e_h19, hF⟩ := lt_e hF
  refine x_hp (h2 := h19) e_h19 ?_
  refine x_return dX9_init_84 rfl ⟨Nat.le_of_ble_eq_true rfl, Nat.le_of_ble_eq_true rfl⟩ ?_
  cases hF
  exact ⟨rfl, rfl⟩
set_option maxHeartbeats 4000000 in
set_option maxRecDepth 100000 in
theorem u_X9_init_u (E : xE) (d : Nat) (r : Int × Hp) : ∀ n : Nat, (∀ (x0 : Int) (h : Hp), g_X9_init_u n 0 [x0] h = some r → X E mX9_init (d + 1) (6, 396) (0, 0) 0 [some (xr 9 x0)] [] h (PuV r)) := by
  intro n
  induction n with
  | zero => exact fun _ _ hF => no_e (r := r) hF
  | succ n ih => exact fun x0 h hF => t_X9_init_u_0 E d (g_X9_init_u n) r  x0 h hF
theorem c_X9_init_u (d : Nat) (x0 : Int) (h : Hp) (r : Int × Hp) (hF : f_X9_init_u x0 h = some r) : Sp mX9_init (d + 1) (6, 396) [xr 9 x0] h (PuV r) :=
  sp_of (by decide) rfl (Nat.le_of_ble_eq_true rfl) (ls := [some (xr 9 x0)]) rfl (fun E _ => (u_X9_init_u E d r FU) x0 h hF)
theorem dX10_init_0 : decode cX10_init 0 = .ok (.aload_n 0, 1) := by decide +kernel
theorem dX10_init_1 : decode cX10_init 1 = .ok (.invokespecial 3, 3) := by decide +kernel
theorem dX10_init_4 : decode cX10_init 4 = .ok (.aload_n 0, 1) := by decide +kernel
theorem dX10_init_5 : decode cX10_init 5 = .ok (.iconst 0, 1) := by decide +kernel
theorem dX10_init_6 : decode cX10_init 6 = .ok (.putfield 9, 3) := by decide +kernel
theorem dX10_init_9 : decode cX10_init 9 = .ok (.aload_n 0, 1) := by decide +kernel
theorem dX10_init_10 : decode cX10_init 10 = .ok (.iconst 0, 1) := by decide +kernel
theorem dX10_init_11 : decode cX10_init 11 = .ok (.putfield 15, 3) := by decide +kernel
theorem dX10_init_14 : decode cX10_init 14 = .ok (.aload_n 0, 1) := by decide +kernel
theorem dX10_init_15 : decode cX10_init 15 = .ok (.iconst 0, 1) := by decide +kernel
theorem dX10_init_16 : decode cX10_init 16 = .ok (.putfield 18, 3) := by decide +kernel
theorem dX10_init_19 : decode cX10_init 19 = .ok (.aload_n 0, 1) := by decide +kernel
theorem dX10_init_20 : decode cX10_init 20 = .ok (.lconst 0, 1) := by decide +kernel
theorem dX10_init_21 : decode cX10_init 21 = .ok (.putfield 21, 3) := by decide +kernel
theorem dX10_init_24 : decode cX10_init 24 = .ok (.aload_n 0, 1) := by decide +kernel
theorem dX10_init_25 : decode cX10_init 25 = .ok (.iconst 0, 1) := by decide +kernel
theorem dX10_init_26 : decode cX10_init 26 = .ok (.putfield 25, 3) := by decide +kernel
theorem dX10_init_29 : decode cX10_init 29 = .ok (.aload_n 0, 1) := by decide +kernel
theorem dX10_init_30 : decode cX10_init 30 = .ok (.iconst 0, 1) := by decide +kernel
theorem dX10_init_31 : decode cX10_init 31 = .ok (.putfield 28, 3) := by decide +kernel
theorem dX10_init_34 : decode cX10_init 34 = .ok (.aload_n 0, 1) := by decide +kernel
theorem dX10_init_35 : decode cX10_init 35 = .ok (.iconst 0, 1) := by decide +kernel
theorem dX10_init_36 : decode cX10_init 36 = .ok (.putfield 31, 3) := by decide +kernel
theorem dX10_init_39 : decode cX10_init 39 = .ok (.aload_n 0, 1) := by decide +kernel
theorem dX10_init_40 : decode cX10_init 40 = .ok (.iconst (-1), 1) := by decide +kernel
theorem dX10_init_41 : decode cX10_init 41 = .ok (.putfield 34, 3) := by decide +kernel
theorem dX10_init_44 : decode cX10_init 44 = .ok (.aload_n 0, 1) := by decide +kernel
theorem dX10_init_45 : decode cX10_init 45 = .ok (.bipush 9, 2) := by decide +kernel
theorem dX10_init_47 : decode cX10_init 47 = .ok (.newarray .int, 2) := by decide +kernel
theorem dX10_init_49 : decode cX10_init 49 = .ok (.putfield 37, 3) := by decide +kernel
theorem dX10_init_52 : decode cX10_init 52 = .ok (.return_, 1) := by decide +kernel
noncomputable def b_X10_init_u_0 (rec : Rk) (x0 : Int) (h : Hp) : Option (Int × Hp) :=
  lt (sI h 10 x0 0 0) fun h1 =>
  lt (sI h1 10 x0 1 0) fun h2 =>
  lt (sI h2 10 x0 2 0) fun h3 =>
  lt (sI h3 10 x0 3 0) fun h4 =>
  lt (sI h4 10 x0 4 0) fun h5 =>
  lt (sI h5 10 x0 5 0) fun h6 =>
  lt (sI h6 10 x0 6 0) fun h7 =>
  lt (sI h7 10 x0 7 (-1)) fun h8 =>
  ckp (blk h8 57 x0) <|
  lt (alA h8 57 x0) fun h9 =>
  lt (sR h9 10 x0 8 (some (57, x0))) fun h10 =>
  some (0, h10)
noncomputable def g_X10_init_u (n : Nat) : Rk := Nat.rec (motive := fun _ => Rk) (fun _ _ _ => none) (fun _ rec k l h => if k = 0 then b_X10_init_u_0 rec (l.getD 0 0) h else none) n
noncomputable def f_X10_init_u (x0 : Int) (h : Hp) : Option (Int × Hp) := g_X10_init_u FU 0 [x0] h
set_option maxHeartbeats 4000000 in
set_option maxRecDepth 100000 in
theorem t_X10_init_u_0 (E : xE) (d : Nat) (rec : Rk) (r : Int × Hp) (x0 : Int) (h : Hp) (hF : b_X10_init_u_0 rec x0 h = some r) : X E mX10_init (d + 1) (1, 9) (0, 0) 0 [some (xr 10 x0)] [] h (PuV r) := by
  unfold b_X10_init_u_0 at hF
  refine x_aload_n (i := 0) (b := 1) dX10_init_0 rfl rfl rfl ?_
  refine x_objInit (b := 4) dX10_init_1 ki_635 ki_146 ki_147 (Nat.le_of_ble_eq_true rfl) rfl ?_
  refine x_aload_n (i := 0) (b := 5) dX10_init_4 rfl rfl rfl ?_
  refine x_iconst (n := 0) (b := 6) dX10_init_5 (by decide) rfl ?_
  refine x_putI (b := 9) fk_X10_9 dX10_init_6 rfl rfl 0 rfl ?_
  obtain ⟨h1, e_h1, hF⟩ := lt_e hF
  refine x_hp (h2 := h1) e_h1 ?_
  refine x_aload_n (i := 0) (b := 10) dX10_init_9 rfl rfl rfl ?_
  refine x_iconst (n := 0) (b := 11) dX10_init_10 (by decide) rfl ?_
  refine x_putI (b := 14) fk_X10_15 dX10_init_11 rfl rfl 1 rfl ?_
  obtain ⟨h2, e_h2, hF⟩ := lt_e hF
  refine x_hp (h2 := h2) e_h2 ?_
  refine x_aload_n (i := 0) (b := 15) dX10_init_14 rfl rfl rfl ?_
  refine x_iconst (n := 0) (b := 16) dX10_init_15 (by decide) rfl ?_
  refine x_putI (b := 19) fk_X10_18 dX10_init_16 rfl rfl 2 rfl ?_
  obtain ⟨h3, e_h3, hF⟩ := lt_e hF
  refine x_hp (h2 := h3) e_h3 ?_
  refine x_aload_n (i := 0) (b := 20) dX10_init_19 rfl rfl rfl ?_
  refine x_lconst (z := 0) (b := 21) dX10_init_20 rfl (by decide) rfl ?_
  refine x_putJ (b := 24) fk_X10_21 dX10_init_21 rfl rfl 3 rfl ?_
  obtain ⟨h4, e_h4, hF⟩ := lt_e hF
  refine x_hp (h2 := h4) e_h4 ?_
  refine x_aload_n (i := 0) (b := 25) dX10_init_24 rfl rfl rfl ?_
  refine x_iconst (n := 0) (b := 26) dX10_init_25 (by decide) rfl ?_
  refine x_putI (b := 29) fk_X10_25 dX10_init_26 rfl rfl 4 rfl ?_
  obtain ⟨h5, e_h5, hF⟩ := lt_e hF
  refine x_hp (h2 := h5) e_h5 ?_
  refine x_aload_n (i := 0) (b := 30) dX10_init_29 rfl rfl rfl ?_
  refine x_iconst (n := 0) (b := 31) dX10_init_30 (by decide) rfl ?_
  refine x_putI (b := 34) fk_X10_28 dX10_init_31 rfl rfl 5 rfl ?_
  obtain ⟨h6, e_h6, hF⟩ := lt_e hF
  refine x_hp (h2 := h6) e_h6 ?_
  refine x_aload_n (i := 0) (b := 35) dX10_init_34 rfl rfl rfl ?_
  refine x_iconst (n := 0) (b := 36) dX10_init_35 (by decide) rfl ?_
  refine x_putI (b := 39) fk_X10_31 dX10_init_36 rfl rfl 6 rfl ?_
  obtain ⟨h7, e_h7, hF⟩ := lt_e hF
  refine x_hp (h2 := h7) e_h7 ?_
  refine x_aload_n (i := 0) (b := 40) dX10_init_39 rfl rfl rfl ?_
  refine x_iconst (n := (-1)) (b := 41) dX10_init_40 (by decide) rfl ?_
  refine x_putI (b := 44) fk_X10_34 dX10_init_41 rfl rfl 7 rfl ?_
  obtain ⟨h8, e_h8, hF⟩ := lt_e hF
  refine x_hp (h2 := h8) e_h8 ?_
  refine x_aload_n (i := 0) (b := 45) dX10_init_44 rfl rfl rfl ?_
  refine x_bipush (n := 9) (b := 47) dX10_init_45 (by decide) rfl ?_
  obtain ⟨hs, hF⟩ := ckp_e hF
  refine x_newa (r := 57) (i := x0) (N := 9) (b := 49) dX10_init_47 ak_57 (by decide) rfl rfl ki_223 rfl rfl (by decide) (fun C h9 => by cases h9) hs ⟨Nat.le_of_ble_eq_true rfl, Nat.le_of_ble_eq_true rfl⟩ rfl ?_
  obtain ⟨h9, e_h9, hF⟩ := lt_e hF
  refine x_hp (h2 := h9) e_h9 ?_
  refine x_u (u2 := (1, 9)) rfl ?_
  refine x_putAF (b := 52) fk_X10_37 dX10_init_49 rfl rfl (fun _ _ _ h9 => by cases h9; rfl) rfl 8 rfl ?_
  obtain ⟨h10, e_h10, hF⟩ := lt_e hF
  refine x_hp (h2 := h10) e_h10 ?_
  refine x_return dX10_init_52 rfl ⟨Nat.le_of_ble_eq_true rfl, Nat.le_of_ble_eq_true rfl⟩ ?_
  cases hF
  exact ⟨rfl, rfl⟩
set_option maxHeartbeats 4000000 in
set_option maxRecDepth 100000 in
theorem u_X10_init_u (E : xE) (d : Nat) (r : Int × Hp) : ∀ n : Nat, (∀ (x0 : Int) (h : Hp), g_X10_init_u n 0 [x0] h = some r → X E mX10_init (d + 1) (1, 9) (0, 0) 0 [some (xr 10 x0)] [] h (PuV r)) := by
  intro n
  induction n with
  | zero => exact fun _ _ hF => no_e (r := r) hF
  | succ n ih => exact fun x0 h hF => t_X10_init_u_0 E d (g_X10_init_u n) r  x0 h hF
theorem c_X10_init_u (d : Nat) (x0 : Int) (h : Hp) (r : Int × Hp) (hF : f_X10_init_u x0 h = some r) : Sp mX10_init (d + 1) (1, 9) [xr 10 x0] h (PuV r) :=
  sp_of (by decide) rfl (Nat.le_of_ble_eq_true rfl) (ls := [some (xr 10 x0)]) rfl (fun E _ => (u_X10_init_u E d r FU) x0 h hF)
theorem dX0_init_0 : decode cX0_init 0 = .ok (.aload_n 0, 1) := by decide +kernel
theorem dX0_init_1 : decode cX0_init 1 = .ok (.invokespecial 3, 3) := by decide +kernel
theorem dX0_init_4 : decode cX0_init 4 = .ok (.aload_n 0, 1) := by decide +kernel
theorem dX0_init_5 : decode cX0_init 5 = .ok (.new 9, 3) := by decide +kernel
theorem dX0_init_8 : decode cX0_init 8 = .ok (.dup, 1) := by decide +kernel
theorem dX0_init_9 : decode cX0_init 9 = .ok (.invokespecial 11, 3) := by decide +kernel
theorem dX0_init_12 : decode cX0_init 12 = .ok (.putfield 12, 3) := by decide +kernel
theorem dX0_init_15 : decode cX0_init 15 = .ok (.aload_n 0, 1) := by decide +kernel
theorem dX0_init_16 : decode cX0_init 16 = .ok (.new 18, 3) := by decide +kernel
theorem dX0_init_19 : decode cX0_init 19 = .ok (.dup, 1) := by decide +kernel
theorem dX0_init_20 : decode cX0_init 20 = .ok (.invokespecial 20, 3) := by decide +kernel
theorem dX0_init_23 : decode cX0_init 23 = .ok (.putfield 21, 3) := by decide +kernel
theorem dX0_init_26 : decode cX0_init 26 = .ok (.aload_n 0, 1) := by decide +kernel
theorem dX0_init_27 : decode cX0_init 27 = .ok (.bipush 9, 2) := by decide +kernel
theorem dX0_init_29 : decode cX0_init 29 = .ok (.anewarray 25, 3) := by decide +kernel
theorem dX0_init_32 : decode cX0_init 32 = .ok (.putfield 27, 3) := by decide +kernel
theorem dX0_init_35 : decode cX0_init 35 = .ok (.aload_n 0, 1) := by decide +kernel
theorem dX0_init_36 : decode cX0_init 36 = .ok (.iconst 0, 1) := by decide +kernel
theorem dX0_init_37 : decode cX0_init 37 = .ok (.putfield 31, 3) := by decide +kernel
theorem dX0_init_40 : decode cX0_init 40 = .ok (.aload_n 0, 1) := by decide +kernel
theorem dX0_init_41 : decode cX0_init 41 = .ok (.iconst 0, 1) := by decide +kernel
theorem dX0_init_42 : decode cX0_init 42 = .ok (.putfield 35, 3) := by decide +kernel
theorem dX0_init_45 : decode cX0_init 45 = .ok (.aload_n 0, 1) := by decide +kernel
theorem dX0_init_46 : decode cX0_init 46 = .ok (.bipush 8, 2) := by decide +kernel
theorem dX0_init_48 : decode cX0_init 48 = .ok (.newarray .int, 2) := by decide +kernel
theorem dX0_init_50 : decode cX0_init 50 = .ok (.putfield 38, 3) := by decide +kernel
theorem dX0_init_53 : decode cX0_init 53 = .ok (.aload_n 0, 1) := by decide +kernel
theorem dX0_init_54 : decode cX0_init 54 = .ok (.iconst 0, 1) := by decide +kernel
theorem dX0_init_55 : decode cX0_init 55 = .ok (.putfield 42, 3) := by decide +kernel
theorem dX0_init_58 : decode cX0_init 58 = .ok (.aload_n 0, 1) := by decide +kernel
theorem dX0_init_59 : decode cX0_init 59 = .ok (.iconst 4, 1) := by decide +kernel
theorem dX0_init_60 : decode cX0_init 60 = .ok (.newarray .int, 2) := by decide +kernel
theorem dX0_init_62 : decode cX0_init 62 = .ok (.putfield 45, 3) := by decide +kernel
theorem dX0_init_65 : decode cX0_init 65 = .ok (.aload_n 0, 1) := by decide +kernel
theorem dX0_init_66 : decode cX0_init 66 = .ok (.iconst 4, 1) := by decide +kernel
theorem dX0_init_67 : decode cX0_init 67 = .ok (.newarray .int, 2) := by decide +kernel
theorem dX0_init_69 : decode cX0_init 69 = .ok (.putfield 48, 3) := by decide +kernel
theorem dX0_init_72 : decode cX0_init 72 = .ok (.aload_n 0, 1) := by decide +kernel
theorem dX0_init_73 : decode cX0_init 73 = .ok (.iconst 4, 1) := by decide +kernel
theorem dX0_init_74 : decode cX0_init 74 = .ok (.newarray .int, 2) := by decide +kernel
theorem dX0_init_76 : decode cX0_init 76 = .ok (.putfield 51, 3) := by decide +kernel
theorem dX0_init_79 : decode cX0_init 79 = .ok (.aload_n 0, 1) := by decide +kernel
theorem dX0_init_80 : decode cX0_init 80 = .ok (.iconst 0, 1) := by decide +kernel
theorem dX0_init_81 : decode cX0_init 81 = .ok (.putfield 54, 3) := by decide +kernel
theorem dX0_init_84 : decode cX0_init 84 = .ok (.aload_n 0, 1) := by decide +kernel
theorem dX0_init_85 : decode cX0_init 85 = .ok (.iconst 0, 1) := by decide +kernel
theorem dX0_init_86 : decode cX0_init 86 = .ok (.putfield 57, 3) := by decide +kernel
theorem dX0_init_89 : decode cX0_init 89 = .ok (.aload_n 0, 1) := by decide +kernel
theorem dX0_init_90 : decode cX0_init 90 = .ok (.iconst 1, 1) := by decide +kernel
theorem dX0_init_91 : decode cX0_init 91 = .ok (.putfield 60, 3) := by decide +kernel
theorem dX0_init_94 : decode cX0_init 94 = .ok (.aload_n 0, 1) := by decide +kernel
theorem dX0_init_95 : decode cX0_init 95 = .ok (.iconst 0, 1) := by decide +kernel
theorem dX0_init_96 : decode cX0_init 96 = .ok (.putfield 63, 3) := by decide +kernel
theorem dX0_init_99 : decode cX0_init 99 = .ok (.aload_n 0, 1) := by decide +kernel
theorem dX0_init_100 : decode cX0_init 100 = .ok (.iconst 0, 1) := by decide +kernel
theorem dX0_init_101 : decode cX0_init 101 = .ok (.putfield 66, 3) := by decide +kernel
theorem dX0_init_104 : decode cX0_init 104 = .ok (.iconst 0, 1) := by decide +kernel
theorem dX0_init_105 : decode cX0_init 105 = .ok (.istore_n 1, 1) := by decide +kernel
theorem dX0_init_106 : decode cX0_init 106 = .ok (.iload_n 1, 1) := by decide +kernel
theorem dX0_init_107 : decode cX0_init 107 = .ok (.bipush 9, 2) := by decide +kernel
theorem dX0_init_109 : decode cX0_init 109 = .ok (.if_icmp .ge 22, 3) := by decide +kernel
theorem dX0_init_112 : decode cX0_init 112 = .ok (.aload_n 0, 1) := by decide +kernel
theorem dX0_init_113 : decode cX0_init 113 = .ok (.getfield 27, 3) := by decide +kernel
theorem dX0_init_116 : decode cX0_init 116 = .ok (.iload_n 1, 1) := by decide +kernel
theorem dX0_init_117 : decode cX0_init 117 = .ok (.new 25, 3) := by decide +kernel
theorem dX0_init_120 : decode cX0_init 120 = .ok (.dup, 1) := by decide +kernel
theorem dX0_init_121 : decode cX0_init 121 = .ok (.invokespecial 69, 3) := by decide +kernel
theorem dX0_init_124 : decode cX0_init 124 = .ok (.aastore, 1) := by decide +kernel
theorem dX0_init_125 : decode cX0_init 125 = .ok (.iinc 1 1, 3) := by decide +kernel
theorem dX0_init_128 : decode cX0_init 128 = .ok (.goto (-22), 3) := by decide +kernel
theorem dX0_init_131 : decode cX0_init 131 = .ok (.aload_n 0, 1) := by decide +kernel
theorem dX0_init_132 : decode cX0_init 132 = .ok (.invokevirtual 70, 3) := by decide +kernel
theorem dX0_init_135 : decode cX0_init 135 = .ok (.aload_n 0, 1) := by decide +kernel
theorem dX0_init_136 : decode cX0_init 136 = .ok (.getfield 12, 3) := by decide +kernel
theorem dX0_init_139 : decode cX0_init 139 = .ok (.invokevirtual 73, 3) := by decide +kernel
theorem dX0_init_142 : decode cX0_init 142 = .ok (.return_, 1) := by decide +kernel
noncomputable def b_X0_init_u_0 (rec : Rk) (x0 : Int) (h : Hp) : Option (Int × Hp) :=
  ckp (blk h 9 x0) <|
  lt (alA h 9 x0) fun h1 =>
  bd (f_X9_init_u x0 h1) fun v2 h3 =>
  lt (sR h3 0 x0 0 (some (9, x0))) fun h4 =>
  ckp (blk h4 1 x0) <|
  lt (alA h4 1 x0) fun h5 =>
  bd (f_X1_init_u x0 h5) fun v6 h7 =>
  lt (sR h7 0 x0 1 (some (1, x0))) fun h8 =>
  ckp (blk h8 20 x0) <|
  lt (alA h8 20 x0) fun h9 =>
  lt (sR h9 0 x0 2 (some (20, x0))) fun h10 =>
  lt (sI h10 0 x0 3 0) fun h11 =>
  lt (sI h11 0 x0 4 0) fun h12 =>
  ckp (blk h12 21 x0) <|
  lt (alA h12 21 x0) fun h13 =>
  lt (sR h13 0 x0 5 (some (21, x0))) fun h14 =>
  lt (sI h14 0 x0 6 0) fun h15 =>
  ckp (blk h15 22 x0) <|
  lt (alA h15 22 x0) fun h16 =>
  lt (sR h16 0 x0 7 (some (22, x0))) fun h17 =>
  ckp (blk h17 23 x0) <|
  lt (alA h17 23 x0) fun h18 =>
  lt (sR h18 0 x0 8 (some (23, x0))) fun h19 =>
  ckp (blk h19 24 x0) <|
  lt (alA h19 24 x0) fun h20 =>
  lt (sR h20 0 x0 9 (some (24, x0))) fun h21 =>
  lt (sI h21 0 x0 10 0) fun h22 =>
  lt (sI h22 0 x0 11 0) fun h23 =>
  lt (sI h23 0 x0 12 1) fun h24 =>
  lt (sI h24 0 x0 13 0) fun h25 =>
  lt (sI h25 0 x0 14 0) fun h26 =>
  ck (gR h26 0 x0 2 = some (20, x0)) <|
  ckp (blk h26 4 (9 * x0 + 0)) <|
  lt (alA h26 4 (9 * x0 + 0)) fun h27 =>
  bd (f_X4_init_u (9 * x0 + 0) h27) fun v28 h29 =>
  ck (0 ≤ (0 : Int) ∧ (0 : Int) < 9) <|
  lt (sR h29 20 x0 0 (some (4, 9 * x0 + 0))) fun h30 =>
  ck (gR h30 0 x0 2 = some (20, x0)) <|
  ckp (blk h30 4 (9 * x0 + 1)) <|
  lt (alA h30 4 (9 * x0 + 1)) fun h31 =>
  bd (f_X4_init_u (9 * x0 + 1) h31) fun v32 h33 =>
  ck (0 ≤ (1 : Int) ∧ (1 : Int) < 9) <|
  lt (sR h33 20 x0 1 (some (4, 9 * x0 + 1))) fun h34 =>
  ck (gR h34 0 x0 2 = some (20, x0)) <|
  ckp (blk h34 4 (9 * x0 + 2)) <|
  lt (alA h34 4 (9 * x0 + 2)) fun h35 =>
  bd (f_X4_init_u (9 * x0 + 2) h35) fun v36 h37 =>
  ck (0 ≤ (2 : Int) ∧ (2 : Int) < 9) <|
  lt (sR h37 20 x0 2 (some (4, 9 * x0 + 2))) fun h38 =>
  ck (gR h38 0 x0 2 = some (20, x0)) <|
  ckp (blk h38 4 (9 * x0 + 3)) <|
  lt (alA h38 4 (9 * x0 + 3)) fun h39 =>
  bd (f_X4_init_u (9 * x0 + 3) h39) fun v40 h41 =>
  ck (0 ≤ (3 : Int) ∧ (3 : Int) < 9) <|
  lt (sR h41 20 x0 3 (some (4, 9 * x0 + 3))) fun h42 =>
  ck (gR h42 0 x0 2 = some (20, x0)) <|
  ckp (blk h42 4 (9 * x0 + 4)) <|
  lt (alA h42 4 (9 * x0 + 4)) fun h43 =>
  bd (f_X4_init_u (9 * x0 + 4) h43) fun v44 h45 =>
  ck (0 ≤ (4 : Int) ∧ (4 : Int) < 9) <|
  lt (sR h45 20 x0 4 (some (4, 9 * x0 + 4))) fun h46 =>
  ck (gR h46 0 x0 2 = some (20, x0)) <|
  ckp (blk h46 4 (9 * x0 + 5)) <|
  lt (alA h46 4 (9 * x0 + 5)) fun h47 =>
  bd (f_X4_init_u (9 * x0 + 5) h47) fun v48 h49 =>
  ck (0 ≤ (5 : Int) ∧ (5 : Int) < 9) <|
  lt (sR h49 20 x0 5 (some (4, 9 * x0 + 5))) fun h50 =>
  ck (gR h50 0 x0 2 = some (20, x0)) <|
  ckp (blk h50 4 (9 * x0 + 6)) <|
  lt (alA h50 4 (9 * x0 + 6)) fun h51 =>
  bd (f_X4_init_u (9 * x0 + 6) h51) fun v52 h53 =>
  ck (0 ≤ (6 : Int) ∧ (6 : Int) < 9) <|
  lt (sR h53 20 x0 6 (some (4, 9 * x0 + 6))) fun h54 =>
  ck (gR h54 0 x0 2 = some (20, x0)) <|
  ckp (blk h54 4 (9 * x0 + 7)) <|
  lt (alA h54 4 (9 * x0 + 7)) fun h55 =>
  bd (f_X4_init_u (9 * x0 + 7) h55) fun v56 h57 =>
  ck (0 ≤ (7 : Int) ∧ (7 : Int) < 9) <|
  lt (sR h57 20 x0 7 (some (4, 9 * x0 + 7))) fun h58 =>
  ck (gR h58 0 x0 2 = some (20, x0)) <|
  ckp (blk h58 4 (9 * x0 + 8)) <|
  lt (alA h58 4 (9 * x0 + 8)) fun h59 =>
  bd (f_X4_init_u (9 * x0 + 8) h59) fun v60 h61 =>
  ck (0 ≤ (8 : Int) ∧ (8 : Int) < 9) <|
  lt (sR h61 20 x0 8 (some (4, 9 * x0 + 8))) fun h62 =>
  bd (f_X0_clear_u x0 h62) fun v63 h64 =>
  ck (gR h64 0 x0 0 = some (9, x0)) <|
  bd (f_X9_measure_u x0 h64) fun v65 h66 =>
  some (0, h66)
noncomputable def g_X0_init_u (n : Nat) : Rk := Nat.rec (motive := fun _ => Rk) (fun _ _ _ => none) (fun _ rec k l h => if k = 0 then b_X0_init_u_0 rec (l.getD 0 0) h else none) n
noncomputable def f_X0_init_u (x0 : Int) (h : Hp) : Option (Int × Hp) := g_X0_init_u FU 0 [x0] h
set_option maxHeartbeats 4000000 in
set_option maxRecDepth 100000 in
theorem t_X0_init_u_0 (E : xE) (d : Nat) (rec : Rk) (r : Int × Hp) (x0 : Int) (h : Hp) (hF : b_X0_init_u_0 rec x0 h = some r) : X E mX0_init (d + 5) (26, 732) (0, 0) 0 [some (xr 0 x0), none] [] h (PuV r) := by
  unfold b_X0_init_u_0 at hF
  refine x_aload_n (i := 0) (b := 1) dX0_init_0 rfl rfl rfl ?_
  refine x_objInit (b := 4) dX0_init_1 ki_153 ki_146 ki_147 (Nat.le_of_ble_eq_true rfl) rfl ?_
  refine x_aload_n (i := 0) (b := 5) dX0_init_4 rfl rfl rfl ?_
  obtain ⟨hs, hF⟩ := ckp_e hF
  refine x_new (r := 9) (i := x0) (N := 13) (b := 8) dX0_init_5 rfl (by decide) rfl lay_9 tyX9_ok dv_9 ki_154 ki_155 ki_118 hs ⟨Nat.le_of_ble_eq_true rfl, Nat.le_of_ble_eq_true rfl⟩ rfl ?_
  obtain ⟨h1, e_h1, hF⟩ := lt_e hF
  refine x_hp (h2 := h1) e_h1 ?_
  refine x_u (u2 := (1, 13)) rfl ?_
  refine x_dup (b := 9) dX0_init_8 rfl rfl ?_
  obtain ⟨v2, h3, hq, hF⟩ := bd_e hF
  refine x_callI (as := []) (rest := [xr 9 x0, xr 0 x0]) (b := 12) (c_X9_init_u (d + 3) x0 h1 _ hq) rfl rfl dX0_init_9 cw_X0_11 rfl rfl (Nat.le_of_ble_eq_true rfl) ⟨Nat.le_of_ble_eq_true rfl, Nat.le_of_ble_eq_true rfl⟩ rfl (fun rv hh hp _ => ?_)
  refine x_u (u2 := (7, 409)) rfl ?_
  obtain ⟨rfl, rfl⟩ := hp
  refine x_putRF (b := 15) fk_X0_12 dX0_init_12 rfl rfl (fun _ _ _ h9 => by cases h9; rfl) rfl 0 rfl ?_
  obtain ⟨h4, e_h4, hF⟩ := lt_e hF
  refine x_hp (h2 := h4) e_h4 ?_
  refine x_aload_n (i := 0) (b := 16) dX0_init_15 rfl rfl rfl ?_
  obtain ⟨hs, hF⟩ := ckp_e hF
  refine x_new (r := 1) (i := x0) (N := 5) (b := 19) dX0_init_16 rfl (by decide) rfl lay_1 tyX1_ok dv_1 ki_224 ki_225 ki_119 hs ⟨Nat.le_of_ble_eq_true rfl, Nat.le_of_ble_eq_true rfl⟩ rfl ?_
  obtain ⟨h5, e_h5, hF⟩ := lt_e hF
  refine x_hp (h2 := h5) e_h5 ?_
  refine x_u (u2 := (8, 414)) rfl ?_
  refine x_dup (b := 20) dX0_init_19 rfl rfl ?_
  obtain ⟨v6, h7, hq, hF⟩ := bd_e hF
  refine x_callI (as := []) (rest := [xr 1 x0, xr 0 x0]) (b := 23) (c_X1_init_u (d + 3) x0 h5 _ hq) rfl rfl dX0_init_20 cw_X0_20 rfl rfl (Nat.le_of_ble_eq_true rfl) ⟨Nat.le_of_ble_eq_true rfl, Nat.le_of_ble_eq_true rfl⟩ rfl (fun rv hh hp _ => ?_)
  refine x_u (u2 := (12, 613)) rfl ?_
  obtain ⟨rfl, rfl⟩ := hp
  refine x_putRF (b := 26) fk_X0_21 dX0_init_23 rfl rfl (fun _ _ _ h9 => by cases h9; rfl) rfl 1 rfl ?_
  obtain ⟨h8, e_h8, hF⟩ := lt_e hF
  refine x_hp (h2 := h8) e_h8 ?_
  refine x_aload_n (i := 0) (b := 27) dX0_init_26 rfl rfl rfl ?_
  refine x_bipush (n := 9) (b := 29) dX0_init_27 (by decide) rfl ?_
  obtain ⟨hs, hF⟩ := ckp_e hF
  refine x_newq (r := 20) (i := x0) (N := 9) (b := 32) dX0_init_29 ak_20 rfl rfl ki_251 rfl aoM (by decide) hs ⟨Nat.le_of_ble_eq_true rfl, Nat.le_of_ble_eq_true rfl⟩ rfl ?_
  obtain ⟨h9, e_h9, hF⟩ := lt_e hF
  refine x_hp (h2 := h9) e_h9 ?_
  refine x_u (u2 := (13, 622)) rfl ?_
  refine x_putAF (b := 35) fk_X0_27 dX0_init_32 rfl rfl (fun _ _ _ h9 => by cases h9; rfl) rfl 2 rfl ?_
  obtain ⟨h10, e_h10, hF⟩ := lt_e hF
  refine x_hp (h2 := h10) e_h10 ?_
  refine x_aload_n (i := 0) (b := 36) dX0_init_35 rfl rfl rfl ?_
  refine x_iconst (n := 0) (b := 37) dX0_init_36 (by decide) rfl ?_
  refine x_putI (b := 40) fk_X0_31 dX0_init_37 rfl rfl 3 rfl ?_
  obtain ⟨h11, e_h11, hF⟩ := lt_e hF
  refine x_hp (h2 := h11) e_h11 ?_
  refine x_aload_n (i := 0) (b := 41) dX0_init_40 rfl rfl rfl ?_
  refine x_iconst (n := 0) (b := 42) dX0_init_41 (by decide) rfl ?_
  refine x_putI (b := 45) fk_X0_35 dX0_init_42 rfl rfl 4 rfl ?_
  obtain ⟨h12, e_h12, hF⟩ := lt_e hF
  refine x_hp (h2 := h12) e_h12 ?_
  refine x_aload_n (i := 0) (b := 46) dX0_init_45 rfl rfl rfl ?_
  refine x_bipush (n := 8) (b := 48) dX0_init_46 (by decide) rfl ?_
  obtain ⟨hs, hF⟩ := ckp_e hF
  refine x_newa (r := 21) (i := x0) (N := 8) (b := 50) dX0_init_48 ak_21 (by decide) rfl rfl ki_223 rfl rfl (by decide) (fun C h9 => by cases h9) hs ⟨Nat.le_of_ble_eq_true rfl, Nat.le_of_ble_eq_true rfl⟩ rfl ?_
  obtain ⟨h13, e_h13, hF⟩ := lt_e hF
  refine x_hp (h2 := h13) e_h13 ?_
  refine x_u (u2 := (14, 630)) rfl ?_
  refine x_putAF (b := 53) fk_X0_38 dX0_init_50 rfl rfl (fun _ _ _ h9 => by cases h9; rfl) rfl 5 rfl ?_
  obtain ⟨h14, e_h14, hF⟩ := lt_e hF
  refine x_hp (h2 := h14) e_h14 ?_
  refine x_aload_n (i := 0) (b := 54) dX0_init_53 rfl rfl rfl ?_
  refine x_iconst (n := 0) (b := 55) dX0_init_54 (by decide) rfl ?_
  refine x_putI (b := 58) fk_X0_42 dX0_init_55 rfl rfl 6 rfl ?_
  obtain ⟨h15, e_h15, hF⟩ := lt_e hF
  refine x_hp (h2 := h15) e_h15 ?_
  refine x_aload_n (i := 0) (b := 59) dX0_init_58 rfl rfl rfl ?_
  refine x_iconst (n := 4) (b := 60) dX0_init_59 (by decide) rfl ?_
  obtain ⟨hs, hF⟩ := ckp_e hF
  refine x_newa (r := 22) (i := x0) (N := 4) (b := 62) dX0_init_60 ak_22 (by decide) rfl rfl ki_223 rfl rfl (by decide) (fun C h9 => by cases h9) hs ⟨Nat.le_of_ble_eq_true rfl, Nat.le_of_ble_eq_true rfl⟩ rfl ?_
  obtain ⟨h16, e_h16, hF⟩ := lt_e hF
  refine x_hp (h2 := h16) e_h16 ?_
  refine x_u (u2 := (15, 634)) rfl ?_
  refine x_putAF (b := 65) fk_X0_45 dX0_init_62 rfl rfl (fun _ _ _ h9 => by cases h9; rfl) rfl 7 rfl ?_
  obtain ⟨h17, e_h17, hF⟩ := lt_e hF
  refine x_hp (h2 := h17) e_h17 ?_
  refine x_aload_n (i := 0) (b := 66) dX0_init_65 rfl rfl rfl ?_
  refine x_iconst (n := 4) (b := 67) dX0_init_66 (by decide) rfl ?_
  obtain ⟨hs, hF⟩ := ckp_e hF
  refine x_newa (r := 23) (i := x0) (N := 4) (b := 69) dX0_init_67 ak_23 (by decide) rfl rfl ki_223 rfl rfl (by decide) (fun C h9 => by cases h9) hs ⟨Nat.le_of_ble_eq_true rfl, Nat.le_of_ble_eq_true rfl⟩ rfl ?_
  obtain ⟨h18, e_h18, hF⟩ := lt_e hF
  refine x_hp (h2 := h18) e_h18 ?_
  refine x_u (u2 := (16, 638)) rfl ?_
  refine x_putAF (b := 72) fk_X0_48 dX0_init_69 rfl rfl (fun _ _ _ h9 => by cases h9; rfl) rfl 8 rfl ?_
  obtain ⟨h19, e_h19, hF⟩ := lt_e hF
  refine x_hp (h2 := h19) e_h19 ?_
  refine x_aload_n (i := 0) (b := 73) dX0_init_72 rfl rfl rfl ?_
  refine x_iconst (n := 4) (b := 74) dX0_init_73 (by decide) rfl ?_
  obtain ⟨hs, hF⟩ := ckp_e hF
  refine x_newa (r := 24) (i := x0) (N := 4) (b := 76) dX0_init_74 ak_24 (by decide) rfl rfl ki_223 rfl rfl (by decide) (fun C h9 => by cases h9) hs ⟨Nat.le_of_ble_eq_true rfl, Nat.le_of_ble_eq_true rfl⟩ rfl ?_
  obtain ⟨h20, e_h20, hF⟩ := lt_e hF
  refine x_hp (h2 := h20) e_h20 ?_
  refine x_u (u2 := (17, 642)) rfl ?_
  refine x_putAF (b := 79) fk_X0_51 dX0_init_76 rfl rfl (fun _ _ _ h9 => by cases h9; rfl) rfl 9 rfl ?_
  obtain ⟨h21, e_h21, hF⟩ := lt_e hF
  refine x_hp (h2 := h21) e_h21 ?_
  refine x_aload_n (i := 0) (b := 80) dX0_init_79 rfl rfl rfl ?_
  refine x_iconst (n := 0) (b := 81) dX0_init_80 (by decide) rfl ?_
  refine x_putI (b := 84) fk_X0_54 dX0_init_81 rfl rfl 10 rfl ?_
  obtain ⟨h22, e_h22, hF⟩ := lt_e hF
  refine x_hp (h2 := h22) e_h22 ?_
  refine x_aload_n (i := 0) (b := 85) dX0_init_84 rfl rfl rfl ?_
  refine x_iconst (n := 0) (b := 86) dX0_init_85 (by decide) rfl ?_
  refine x_putI (b := 89) fk_X0_57 dX0_init_86 rfl rfl 11 rfl ?_
  obtain ⟨h23, e_h23, hF⟩ := lt_e hF
  refine x_hp (h2 := h23) e_h23 ?_
  refine x_aload_n (i := 0) (b := 90) dX0_init_89 rfl rfl rfl ?_
  refine x_iconst (n := 1) (b := 91) dX0_init_90 (by decide) rfl ?_
  refine x_putI (b := 94) fk_X0_60 dX0_init_91 rfl rfl 12 rfl ?_
  obtain ⟨h24, e_h24, hF⟩ := lt_e hF
  refine x_hp (h2 := h24) e_h24 ?_
  refine x_aload_n (i := 0) (b := 95) dX0_init_94 rfl rfl rfl ?_
  refine x_iconst (n := 0) (b := 96) dX0_init_95 (by decide) rfl ?_
  refine x_putI (b := 99) fk_X0_63 dX0_init_96 rfl rfl 13 rfl ?_
  obtain ⟨h25, e_h25, hF⟩ := lt_e hF
  refine x_hp (h2 := h25) e_h25 ?_
  refine x_aload_n (i := 0) (b := 100) dX0_init_99 rfl rfl rfl ?_
  refine x_iconst (n := 0) (b := 101) dX0_init_100 (by decide) rfl ?_
  refine x_putI (b := 104) fk_X0_66 dX0_init_101 rfl rfl 14 rfl ?_
  obtain ⟨h26, e_h26, hF⟩ := lt_e hF
  refine x_hp (h2 := h26) e_h26 ?_
  refine x_iconst (n := 0) (b := 105) dX0_init_104 (by decide) rfl ?_
  refine x_istore_n (i := 1) (b := 106) (ls2 := [some (xr 0 x0), some (xi 0)]) dX0_init_105 rfl (Nat.le_of_ble_eq_true rfl) rfl rfl ?_
  refine x_iload_n (i := 1) (b := 107) dX0_init_106 rfl rfl rfl ?_
  refine x_bipush (n := 9) (b := 109) dX0_init_107 (by decide) rfl ?_
  refine x_icmp_ge (tgt := 131) (b := 112) dX0_init_109 (by decide) rfl (fun hc => absurd hc (by decide)) (fun hc => ?_)
  refine x_aload_n (i := 0) (b := 113) dX0_init_112 rfl rfl rfl ?_
  obtain ⟨hs, hF⟩ := ck_e hF
  refine x_getR (v := some (20, x0)) (b := 116) fk_X0_27 dX0_init_113 rfl hs rfl ?_
  refine x_iload_n (i := 1) (b := 117) dX0_init_116 rfl rfl rfl ?_
  obtain ⟨hs, hF⟩ := ckp_e hF
  refine x_new (r := 4) (i := 9 * x0 + 0) (N := 10) (b := 120) dX0_init_117 rfl (by decide) rfl lay_4 tyX4_ok dv_4 ki_251 ki_253 ki_120 hs ⟨Nat.le_of_ble_eq_true rfl, Nat.le_of_ble_eq_true rfl⟩ rfl ?_
  obtain ⟨h27, e_h27, hF⟩ := lt_e hF
  refine x_hp (h2 := h27) e_h27 ?_
  refine x_u (u2 := (18, 652)) rfl ?_
  refine x_dup (b := 121) dX0_init_120 rfl rfl ?_
  obtain ⟨v28, h29, hq, hF⟩ := bd_e hF
  refine x_callI (as := []) (rest := [xr 4 (9 * x0 + 0), xi 0, xr 20 x0]) (b := 124) (c_X4_init_u (d + 3) (9 * x0 + 0) h27 _ hq) rfl rfl dX0_init_121 cw_X0_69 rfl rfl (Nat.le_of_ble_eq_true rfl) ⟨Nat.le_of_ble_eq_true rfl, Nat.le_of_ble_eq_true rfl⟩ rfl (fun rv hh hp _ => ?_)
  refine x_u (u2 := (18, 652)) rfl ?_
  obtain ⟨rfl, rfl⟩ := hp
  obtain ⟨hs, hF⟩ := ck_e hF
  have hs1 := hs
  refine x_aastM (b := 125) ak_20 dX0_init_124 hs1 rfl ?_
  obtain ⟨h30, e_h30, hF⟩ := lt_e hF
  refine x_hp (h2 := h30) e_h30 ?_
  refine x_iinc (i := 1) (b := 128) (ls2 := [some (xr 0 x0), some (xi 1)]) dX0_init_125 rfl (Nat.le_of_ble_eq_true rfl) (by decide) rfl rfl ?_
  refine x_goto (tgt := 106) dX0_init_128 (by decide) ?_
  refine x_iload_n (i := 1) (b := 107) dX0_init_106 rfl rfl rfl ?_
  refine x_bipush (n := 9) (b := 109) dX0_init_107 (by decide) rfl ?_
  refine x_icmp_ge (tgt := 131) (b := 112) dX0_init_109 (by decide) rfl (fun hc => absurd hc (by decide)) (fun hc => ?_)
  refine x_aload_n (i := 0) (b := 113) dX0_init_112 rfl rfl rfl ?_
  obtain ⟨hs, hF⟩ := ck_e hF
  refine x_getR (v := some (20, x0)) (b := 116) fk_X0_27 dX0_init_113 rfl hs rfl ?_
  refine x_iload_n (i := 1) (b := 117) dX0_init_116 rfl rfl rfl ?_
  obtain ⟨hs, hF⟩ := ckp_e hF
  refine x_new (r := 4) (i := 9 * x0 + 1) (N := 10) (b := 120) dX0_init_117 rfl (by decide) rfl lay_4 tyX4_ok dv_4 ki_251 ki_253 ki_120 hs ⟨Nat.le_of_ble_eq_true rfl, Nat.le_of_ble_eq_true rfl⟩ rfl ?_
  obtain ⟨h31, e_h31, hF⟩ := lt_e hF
  refine x_hp (h2 := h31) e_h31 ?_
  refine x_u (u2 := (19, 662)) rfl ?_
  refine x_dup (b := 121) dX0_init_120 rfl rfl ?_
  obtain ⟨v32, h33, hq, hF⟩ := bd_e hF
  refine x_callI (as := []) (rest := [xr 4 (9 * x0 + 1), xi 1, xr 20 x0]) (b := 124) (c_X4_init_u (d + 3) (9 * x0 + 1) h31 _ hq) rfl rfl dX0_init_121 cw_X0_69 rfl rfl (Nat.le_of_ble_eq_true rfl) ⟨Nat.le_of_ble_eq_true rfl, Nat.le_of_ble_eq_true rfl⟩ rfl (fun rv hh hp _ => ?_)
  refine x_u (u2 := (19, 662)) rfl ?_
  obtain ⟨rfl, rfl⟩ := hp
  obtain ⟨hs, hF⟩ := ck_e hF
  have hs1 := hs
  refine x_aastM (b := 125) ak_20 dX0_init_124 hs1 rfl ?_
  obtain ⟨h34, e_h34, hF⟩ := lt_e hF
  refine x_hp (h2 := h34) e_h34 ?_
  refine x_iinc (i := 1) (b := 128) (ls2 := [some (xr 0 x0), some (xi 2)]) dX0_init_125 rfl (Nat.le_of_ble_eq_true rfl) (by decide) rfl rfl ?_
  refine x_goto (tgt := 106) dX0_init_128 (by decide) ?_
  refine x_iload_n (i := 1) (b := 107) dX0_init_106 rfl rfl rfl ?_
  refine x_bipush (n := 9) (b := 109) dX0_init_107 (by decide) rfl ?_
  refine x_icmp_ge (tgt := 131) (b := 112) dX0_init_109 (by decide) rfl (fun hc => absurd hc (by decide)) (fun hc => ?_)
  refine x_aload_n (i := 0) (b := 113) dX0_init_112 rfl rfl rfl ?_
  obtain ⟨hs, hF⟩ := ck_e hF
  refine x_getR (v := some (20, x0)) (b := 116) fk_X0_27 dX0_init_113 rfl hs rfl ?_
  refine x_iload_n (i := 1) (b := 117) dX0_init_116 rfl rfl rfl ?_
  obtain ⟨hs, hF⟩ := ckp_e hF
  refine x_new (r := 4) (i := 9 * x0 + 2) (N := 10) (b := 120) dX0_init_117 rfl (by decide) rfl lay_4 tyX4_ok dv_4 ki_251 ki_253 ki_120 hs ⟨Nat.le_of_ble_eq_true rfl, Nat.le_of_ble_eq_true rfl⟩ rfl ?_
  obtain ⟨h35, e_h35, hF⟩ := lt_e hF
  refine x_hp (h2 := h35) e_h35 ?_
  refine x_u (u2 := (20, 672)) rfl ?_
  refine x_dup (b := 121) dX0_init_120 rfl rfl ?_
  obtain ⟨v36, h37, hq, hF⟩ := bd_e hF
  refine x_callI (as := []) (rest := [xr 4 (9 * x0 + 2), xi 2, xr 20 x0]) (b := 124) (c_X4_init_u (d + 3) (9 * x0 + 2) h35 _ hq) rfl rfl dX0_init_121 cw_X0_69 rfl rfl (Nat.le_of_ble_eq_true rfl) ⟨Nat.le_of_ble_eq_true rfl, Nat.le_of_ble_eq_true rfl⟩ rfl (fun rv hh hp _ => ?_)
  refine x_u (u2 := (20, 672)) rfl ?_
  obtain ⟨rfl, rfl⟩ := hp
  obtain ⟨hs, hF⟩ := ck_e hF
  have hs1 := hs
  refine x_aastM (b := 125) ak_20 dX0_init_124 hs1 rfl ?_
  obtain ⟨h38, e_h38, hF⟩ := lt_e hF
  refine x_hp (h2 := h38) e_h38 ?_
  refine x_iinc (i := 1) (b := 128) (ls2 := [some (xr 0 x0), some (xi 3)]) dX0_init_125 rfl (Nat.le_of_ble_eq_true rfl) (by decide) rfl rfl ?_
  refine x_goto (tgt := 106) dX0_init_128 (by decide) ?_
  refine x_iload_n (i := 1) (b := 107) dX0_init_106 rfl rfl rfl ?_
  refine x_bipush (n := 9) (b := 109) dX0_init_107 (by decide) rfl ?_
  refine x_icmp_ge (tgt := 131) (b := 112) dX0_init_109 (by decide) rfl (fun hc => absurd hc (by decide)) (fun hc => ?_)
  refine x_aload_n (i := 0) (b := 113) dX0_init_112 rfl rfl rfl ?_
  obtain ⟨hs, hF⟩ := ck_e hF
  refine x_getR (v := some (20, x0)) (b := 116) fk_X0_27 dX0_init_113 rfl hs rfl ?_
  refine x_iload_n (i := 1) (b := 117) dX0_init_116 rfl rfl rfl ?_
  obtain ⟨hs, hF⟩ := ckp_e hF
  refine x_new (r := 4) (i := 9 * x0 + 3) (N := 10) (b := 120) dX0_init_117 rfl (by decide) rfl lay_4 tyX4_ok dv_4 ki_251 ki_253 ki_120 hs ⟨Nat.le_of_ble_eq_true rfl, Nat.le_of_ble_eq_true rfl⟩ rfl ?_
  obtain ⟨h39, e_h39, hF⟩ := lt_e hF
  refine x_hp (h2 := h39) e_h39 ?_
  refine x_u (u2 := (21, 682)) rfl ?_
  refine x_dup (b := 121) dX0_init_120 rfl rfl ?_
  obtain ⟨v40, h41, hq, hF⟩ := bd_e hF
  refine x_callI (as := []) (rest := [xr 4 (9 * x0 + 3), xi 3, xr 20 x0]) (b := 124) (c_X4_init_u (d + 3) (9 * x0 + 3) h39 _ hq) rfl rfl dX0_init_121 cw_X0_69 rfl rfl (Nat.le_of_ble_eq_true rfl) ⟨Nat.le_of_ble_eq_true rfl, Nat.le_of_ble_eq_true rfl⟩ rfl (fun rv hh hp _ => ?_)
  refine x_u (u2 := (21, 682)) rfl ?_
  obtain ⟨rfl, rfl⟩ := hp
  obtain ⟨hs, hF⟩ := ck_e hF
  have hs1 := hs
  refine x_aastM (b := 125) ak_20 dX0_init_124 hs1 rfl ?_
  obtain ⟨h42, e_h42, hF⟩ := lt_e hF
  refine x_hp (h2 := h42) e_h42 ?_
  refine x_iinc (i := 1) (b := 128) (ls2 := [some (xr 0 x0), some (xi 4)]) dX0_init_125 rfl (Nat.le_of_ble_eq_true rfl) (by decide) rfl rfl ?_
  refine x_goto (tgt := 106) dX0_init_128 (by decide) ?_
  refine x_iload_n (i := 1) (b := 107) dX0_init_106 rfl rfl rfl ?_
  refine x_bipush (n := 9) (b := 109) dX0_init_107 (by decide) rfl ?_
  refine x_icmp_ge (tgt := 131) (b := 112) dX0_init_109 (by decide) rfl (fun hc => absurd hc (by decide)) (fun hc => ?_)
  refine x_aload_n (i := 0) (b := 113) dX0_init_112 rfl rfl rfl ?_
  obtain ⟨hs, hF⟩ := ck_e hF
  refine x_getR (v := some (20, x0)) (b := 116) fk_X0_27 dX0_init_113 rfl hs rfl ?_
  refine x_iload_n (i := 1) (b := 117) dX0_init_116 rfl rfl rfl ?_
  obtain ⟨hs, hF⟩ := ckp_e hF
  refine x_new (r := 4) (i := 9 * x0 + 4) (N := 10) (b := 120) dX0_init_117 rfl (by decide) rfl lay_4 tyX4_ok dv_4 ki_251 ki_253 ki_120 hs ⟨Nat.le_of_ble_eq_true rfl, Nat.le_of_ble_eq_true rfl⟩ rfl ?_
  obtain ⟨h43, e_h43, hF⟩ := lt_e hF
  refine x_hp (h2 := h43) e_h43 ?_
  refine x_u (u2 := (22, 692)) rfl ?_
  refine x_dup (b := 121) dX0_init_120 rfl rfl ?_
  obtain ⟨v44, h45, hq, hF⟩ := bd_e hF
  refine x_callI (as := []) (rest := [xr 4 (9 * x0 + 4), xi 4, xr 20 x0]) (b := 124) (c_X4_init_u (d + 3) (9 * x0 + 4) h43 _ hq) rfl rfl dX0_init_121 cw_X0_69 rfl rfl (Nat.le_of_ble_eq_true rfl) ⟨Nat.le_of_ble_eq_true rfl, Nat.le_of_ble_eq_true rfl⟩ rfl (fun rv hh hp _ => ?_)
  refine x_u (u2 := (22, 692)) rfl ?_
  obtain ⟨rfl, rfl⟩ := hp
  obtain ⟨hs, hF⟩ := ck_e hF
  have hs1 := hs
  refine x_aastM (b := 125) ak_20 dX0_init_124 hs1 rfl ?_
  obtain ⟨h46, e_h46, hF⟩ := lt_e hF
  refine x_hp (h2 := h46) e_h46 ?_
  refine x_iinc (i := 1) (b := 128) (ls2 := [some (xr 0 x0), some (xi 5)]) dX0_init_125 rfl (Nat.le_of_ble_eq_true rfl) (by decide) rfl rfl ?_
  refine x_goto (tgt := 106) dX0_init_128 (by decide) ?_
  refine x_iload_n (i := 1) (b := 107) dX0_init_106 rfl rfl rfl ?_
  refine x_bipush (n := 9) (b := 109) dX0_init_107 (by decide) rfl ?_
  refine x_icmp_ge (tgt := 131) (b := 112) dX0_init_109 (by decide) rfl (fun hc => absurd hc (by decide)) (fun hc => ?_)
  refine x_aload_n (i := 0) (b := 113) dX0_init_112 rfl rfl rfl ?_
  obtain ⟨hs, hF⟩ := ck_e hF
  refine x_getR (v := some (20, x0)) (b := 116) fk_X0_27 dX0_init_113 rfl hs rfl ?_
  refine x_iload_n (i := 1) (b := 117) dX0_init_116 rfl rfl rfl ?_
  obtain ⟨hs, hF⟩ := ckp_e hF
  refine x_new (r := 4) (i := 9 * x0 + 5) (N := 10) (b := 120) dX0_init_117 rfl (by decide) rfl lay_4 tyX4_ok dv_4 ki_251 ki_253 ki_120 hs ⟨Nat.le_of_ble_eq_true rfl, Nat.le_of_ble_eq_true rfl⟩ rfl ?_
  obtain ⟨h47, e_h47, hF⟩ := lt_e hF
  refine x_hp (h2 := h47) e_h47 ?_
  refine x_u (u2 := (23, 702)) rfl ?_
  refine x_dup (b := 121) dX0_init_120 rfl rfl ?_
  obtain ⟨v48, h49, hq, hF⟩ := bd_e hF
  refine x_callI (as := []) (rest := [xr 4 (9 * x0 + 5), xi 5, xr 20 x0]) (b := 124) (c_X4_init_u (d + 3) (9 * x0 + 5) h47 _ hq) rfl rfl dX0_init_121 cw_X0_69 rfl rfl (Nat.le_of_ble_eq_true rfl) ⟨Nat.le_of_ble_eq_true rfl, Nat.le_of_ble_eq_true rfl⟩ rfl (fun rv hh hp _ => ?_)
  refine x_u (u2 := (23, 702)) rfl ?_
  obtain ⟨rfl, rfl⟩ := hp
  obtain ⟨hs, hF⟩ := ck_e hF
  have hs1 := hs
  refine x_aastM (b := 125) ak_20 dX0_init_124 hs1 rfl ?_
  obtain ⟨h50, e_h50, hF⟩ := lt_e hF
  refine x_hp (h2 := h50) e_h50 ?_
  refine x_iinc (i := 1) (b := 128) (ls2 := [some (xr 0 x0), some (xi 6)]) dX0_init_125 rfl (Nat.le_of_ble_eq_true rfl) (by decide) rfl rfl ?_
  refine x_goto (tgt := 106) dX0_init_128 (by decide) ?_
  refine x_iload_n (i := 1) (b := 107) dX0_init_106 rfl rfl rfl ?_
  refine x_bipush (n := 9) (b := 109) dX0_init_107 (by decide) rfl ?_
  refine x_icmp_ge (tgt := 131) (b := 112) dX0_init_109 (by decide) rfl (fun hc => absurd hc (by decide)) (fun hc => ?_)
  refine x_aload_n (i := 0) (b := 113) dX0_init_112 rfl rfl rfl ?_
  obtain ⟨hs, hF⟩ := ck_e hF
  refine x_getR (v := some (20, x0)) (b := 116) fk_X0_27 dX0_init_113 rfl hs rfl ?_
  refine x_iload_n (i := 1) (b := 117) dX0_init_116 rfl rfl rfl ?_
  obtain ⟨hs, hF⟩ := ckp_e hF
  refine x_new (r := 4) (i := 9 * x0 + 6) (N := 10) (b := 120) dX0_init_117 rfl (by decide) rfl lay_4 tyX4_ok dv_4 ki_251 ki_253 ki_120 hs ⟨Nat.le_of_ble_eq_true rfl, Nat.le_of_ble_eq_true rfl⟩ rfl ?_
  obtain ⟨h51, e_h51, hF⟩ := lt_e hF
  refine x_hp (h2 := h51) e_h51 ?_
  refine x_u (u2 := (24, 712)) rfl ?_
  refine x_dup (b := 121) dX0_init_120 rfl rfl ?_
  obtain ⟨v52, h53, hq, hF⟩ := bd_e hF
  refine x_callI (as := []) (rest := [xr 4 (9 * x0 + 6), xi 6, xr 20 x0]) (b := 124) (c_X4_init_u (d + 3) (9 * x0 + 6) h51 _ hq) rfl rfl dX0_init_121 cw_X0_69 rfl rfl (Nat.le_of_ble_eq_true rfl) ⟨Nat.le_of_ble_eq_true rfl, Nat.le_of_ble_eq_true rfl⟩ rfl (fun rv hh hp _ => ?_)
  refine x_u (u2 := (24, 712)) rfl ?_
  obtain ⟨rfl, rfl⟩ := hp
  obtain ⟨hs, hF⟩ := ck_e hF
  have hs1 := hs
  refine x_aastM (b := 125) ak_20 dX0_init_124 hs1 rfl ?_
  obtain ⟨h54, e_h54, hF⟩ := lt_e hF
  refine x_hp (h2 := h54) e_h54 ?_
  refine x_iinc (i := 1) (b := 128) (ls2 := [some (xr 0 x0), some (xi 7)]) dX0_init_125 rfl (Nat.le_of_ble_eq_true rfl) (by decide) rfl rfl ?_
  refine x_goto (tgt := 106) dX0_init_128 (by decide) ?_
  refine x_iload_n (i := 1) (b := 107) dX0_init_106 rfl rfl rfl ?_
  refine x_bipush (n := 9) (b := 109) dX0_init_107 (by decide) rfl ?_
  refine x_icmp_ge (tgt := 131) (b := 112) dX0_init_109 (by decide) rfl (fun hc => absurd hc (by decide)) (fun hc => ?_)
  refine x_aload_n (i := 0) (b := 113) dX0_init_112 rfl rfl rfl ?_
  obtain ⟨hs, hF⟩ := ck_e hF
  refine x_getR (v := some (20, x0)) (b := 116) fk_X0_27 dX0_init_113 rfl hs rfl ?_
  refine x_iload_n (i := 1) (b := 117) dX0_init_116 rfl rfl rfl ?_
  obtain ⟨hs, hF⟩ := ckp_e hF
  refine x_new (r := 4) (i := 9 * x0 + 7) (N := 10) (b := 120) dX0_init_117 rfl (by decide) rfl lay_4 tyX4_ok dv_4 ki_251 ki_253 ki_120 hs ⟨Nat.le_of_ble_eq_true rfl, Nat.le_of_ble_eq_true rfl⟩ rfl ?_
  obtain ⟨h55, e_h55, hF⟩ := lt_e hF
  refine x_hp (h2 := h55) e_h55 ?_
  refine x_u (u2 := (25, 722)) rfl ?_
  refine x_dup (b := 121) dX0_init_120 rfl rfl ?_
  obtain ⟨v56, h57, hq, hF⟩ := bd_e hF
  refine x_callI (as := []) (rest := [xr 4 (9 * x0 + 7), xi 7, xr 20 x0]) (b := 124) (c_X4_init_u (d + 3) (9 * x0 + 7) h55 _ hq) rfl rfl dX0_init_121 cw_X0_69 rfl rfl (Nat.le_of_ble_eq_true rfl) ⟨Nat.le_of_ble_eq_true rfl, Nat.le_of_ble_eq_true rfl⟩ rfl (fun rv hh hp _ => ?_)
  refine x_u (u2 := (25, 722)) rfl ?_
  obtain ⟨rfl, rfl⟩ := hp
  obtain ⟨hs, hF⟩ := ck_e hF
  have hs1 := hs
  refine x_aastM (b := 125) ak_20 dX0_init_124 hs1 rfl ?_
  obtain ⟨h58, e_h58, hF⟩ := lt_e hF
  refine x_hp (h2 := h58) e_h58 ?_
  refine x_iinc (i := 1) (b := 128) (ls2 := [some (xr 0 x0), some (xi 8)]) dX0_init_125 rfl (Nat.le_of_ble_eq_true rfl) (by decide) rfl rfl ?_
  refine x_goto (tgt := 106) dX0_init_128 (by decide) ?_
  refine x_iload_n (i := 1) (b := 107) dX0_init_106 rfl rfl rfl ?_
  refine x_bipush (n := 9) (b := 109) dX0_init_107 (by decide) rfl ?_
  refine x_icmp_ge (tgt := 131) (b := 112) dX0_init_109 (by decide) rfl (fun hc => absurd hc (by decide)) (fun hc => ?_)
  refine x_aload_n (i := 0) (b := 113) dX0_init_112 rfl rfl rfl ?_
  obtain ⟨hs, hF⟩ := ck_e hF
  refine x_getR (v := some (20, x0)) (b := 116) fk_X0_27 dX0_init_113 rfl hs rfl ?_
  refine x_iload_n (i := 1) (b := 117) dX0_init_116 rfl rfl rfl ?_
  obtain ⟨hs, hF⟩ := ckp_e hF
  refine x_new (r := 4) (i := 9 * x0 + 8) (N := 10) (b := 120) dX0_init_117 rfl (by decide) rfl lay_4 tyX4_ok dv_4 ki_251 ki_253 ki_120 hs ⟨Nat.le_of_ble_eq_true rfl, Nat.le_of_ble_eq_true rfl⟩ rfl ?_
  obtain ⟨h59, e_h59, hF⟩ := lt_e hF
  refine x_hp (h2 := h59) e_h59 ?_
  refine x_u (u2 := (26, 732)) rfl ?_
  refine x_dup (b := 121) dX0_init_120 rfl rfl ?_
  obtain ⟨v60, h61, hq, hF⟩ := bd_e hF
  refine x_callI (as := []) (rest := [xr 4 (9 * x0 + 8), xi 8, xr 20 x0]) (b := 124) (c_X4_init_u (d + 3) (9 * x0 + 8) h59 _ hq) rfl rfl dX0_init_121 cw_X0_69 rfl rfl (Nat.le_of_ble_eq_true rfl) ⟨Nat.le_of_ble_eq_true rfl, Nat.le_of_ble_eq_true rfl⟩ rfl (fun rv hh hp _ => ?_)
  refine x_u (u2 := (26, 732)) rfl ?_
  obtain ⟨rfl, rfl⟩ := hp
  obtain ⟨hs, hF⟩ := ck_e hF
  have hs1 := hs
  refine x_aastM (b := 125) ak_20 dX0_init_124 hs1 rfl ?_
  obtain ⟨h62, e_h62, hF⟩ := lt_e hF
  refine x_hp (h2 := h62) e_h62 ?_
  refine x_iinc (i := 1) (b := 128) (ls2 := [some (xr 0 x0), some (xi 9)]) dX0_init_125 rfl (Nat.le_of_ble_eq_true rfl) (by decide) rfl rfl ?_
  refine x_goto (tgt := 106) dX0_init_128 (by decide) ?_
  refine x_iload_n (i := 1) (b := 107) dX0_init_106 rfl rfl rfl ?_
  refine x_bipush (n := 9) (b := 109) dX0_init_107 (by decide) rfl ?_
  refine x_icmp_ge (tgt := 131) (b := 112) dX0_init_109 (by decide) rfl (fun hc => ?_) (fun hc => absurd hc (by decide))
  refine x_aload_n (i := 0) (b := 132) dX0_init_131 rfl rfl rfl ?_
  obtain ⟨v63, h64, hq, hF⟩ := bd_e hF
  refine x_callV (as := []) (rest := []) (b := 135) (c_X0_clear_u (d + 2) x0 h62 _ hq) dX0_init_132 cw_X0_70 ⟨_, _, rfl, Nat.le_of_ble_eq_true rfl⟩ rfl rfl (Nat.le_of_ble_eq_true rfl) ⟨Nat.le_of_ble_eq_true rfl, Nat.le_of_ble_eq_true rfl⟩ rfl (fun rv hh hp _ => ?_)
  refine x_u (u2 := (26, 732)) rfl ?_
  obtain ⟨rfl, rfl⟩ := hp
  refine x_aload_n (i := 0) (b := 136) dX0_init_135 rfl rfl rfl ?_
  obtain ⟨hs, hF⟩ := ck_e hF
  refine x_getR (v := some (9, x0)) (b := 139) fk_X0_12 dX0_init_136 rfl hs rfl ?_
  obtain ⟨v65, h66, hq, hF⟩ := bd_e hF
  refine x_callV (as := []) (rest := []) (b := 142) (c_X9_measure_u d x0 h64 _ hq) dX0_init_139 cw_X0_73 ⟨_, _, rfl, Nat.le_of_ble_eq_true rfl⟩ rfl rfl (Nat.le_of_ble_eq_true rfl) ⟨Nat.le_of_ble_eq_true rfl, Nat.le_of_ble_eq_true rfl⟩ rfl (fun rv hh hp _ => ?_)
  refine x_u (u2 := (26, 732)) rfl ?_
  obtain ⟨rfl, rfl⟩ := hp
  refine x_return dX0_init_142 rfl ⟨Nat.le_of_ble_eq_true rfl, Nat.le_of_ble_eq_true rfl⟩ ?_
  cases hF
  exact ⟨rfl, rfl⟩
set_option maxHeartbeats 4000000 in
set_option maxRecDepth 100000 in
theorem u_X0_init_u (E : xE) (d : Nat) (r : Int × Hp) : ∀ n : Nat, (∀ (x0 : Int) (h : Hp), g_X0_init_u n 0 [x0] h = some r → X E mX0_init (d + 5) (26, 732) (0, 0) 0 [some (xr 0 x0), none] [] h (PuV r)) := by
  intro n
  induction n with
  | zero => exact fun _ _ hF => no_e (r := r) hF
  | succ n ih => exact fun x0 h hF => t_X0_init_u_0 E d (g_X0_init_u n) r  x0 h hF
theorem c_X0_init_u (d : Nat) (x0 : Int) (h : Hp) (r : Int × Hp) (hF : f_X0_init_u x0 h = some r) : Sp mX0_init (d + 5) (26, 732) [xr 0 x0] h (PuV r) :=
  sp_of (by decide) rfl (Nat.le_of_ble_eq_true rfl) (ls := [some (xr 0 x0), none]) rfl (fun E _ => (u_X0_init_u E d r FU) x0 h hF)
theorem dX8_init_0 : decode cX8_init 0 = .ok (.aload_n 0, 1) := by decide +kernel
theorem dX8_init_1 : decode cX8_init 1 = .ok (.invokespecial 3, 3) := by decide +kernel
theorem dX8_init_4 : decode cX8_init 4 = .ok (.aload_n 0, 1) := by decide +kernel
theorem dX8_init_5 : decode cX8_init 5 = .ok (.bipush 27, 2) := by decide +kernel
theorem dX8_init_7 : decode cX8_init 7 = .ok (.newarray .int, 2) := by decide +kernel
theorem dX8_init_9 : decode cX8_init 9 = .ok (.putfield 11, 3) := by decide +kernel
theorem dX8_init_12 : decode cX8_init 12 = .ok (.aload_n 0, 1) := by decide +kernel
theorem dX8_init_13 : decode cX8_init 13 = .ok (.iconst 0, 1) := by decide +kernel
theorem dX8_init_14 : decode cX8_init 14 = .ok (.putfield 15, 3) := by decide +kernel
theorem dX8_init_17 : decode cX8_init 17 = .ok (.aload_n 0, 1) := by decide +kernel
theorem dX8_init_18 : decode cX8_init 18 = .ok (.iconst 0, 1) := by decide +kernel
theorem dX8_init_19 : decode cX8_init 19 = .ok (.putfield 19, 3) := by decide +kernel
theorem dX8_init_22 : decode cX8_init 22 = .ok (.aload_n 0, 1) := by decide +kernel
theorem dX8_init_23 : decode cX8_init 23 = .ok (.iconst 0, 1) := by decide +kernel
theorem dX8_init_24 : decode cX8_init 24 = .ok (.putfield 22, 3) := by decide +kernel
theorem dX8_init_27 : decode cX8_init 27 = .ok (.aload_n 0, 1) := by decide +kernel
theorem dX8_init_28 : decode cX8_init 28 = .ok (.iconst 0, 1) := by decide +kernel
theorem dX8_init_29 : decode cX8_init 29 = .ok (.putfield 25, 3) := by decide +kernel
theorem dX8_init_32 : decode cX8_init 32 = .ok (.aload_n 0, 1) := by decide +kernel
theorem dX8_init_33 : decode cX8_init 33 = .ok (.sipush 801, 3) := by decide +kernel
theorem dX8_init_36 : decode cX8_init 36 = .ok (.newarray .int, 2) := by decide +kernel
theorem dX8_init_38 : decode cX8_init 38 = .ok (.putfield 28, 3) := by decide +kernel
theorem dX8_init_41 : decode cX8_init 41 = .ok (.aload_n 0, 1) := by decide +kernel
theorem dX8_init_42 : decode cX8_init 42 = .ok (.sipush 801, 3) := by decide +kernel
theorem dX8_init_45 : decode cX8_init 45 = .ok (.newarray .int, 2) := by decide +kernel
theorem dX8_init_47 : decode cX8_init 47 = .ok (.putfield 31, 3) := by decide +kernel
theorem dX8_init_50 : decode cX8_init 50 = .ok (.aload_n 0, 1) := by decide +kernel
theorem dX8_init_51 : decode cX8_init 51 = .ok (.sipush 801, 3) := by decide +kernel
theorem dX8_init_54 : decode cX8_init 54 = .ok (.newarray .int, 2) := by decide +kernel
theorem dX8_init_56 : decode cX8_init 56 = .ok (.putfield 34, 3) := by decide +kernel
theorem dX8_init_59 : decode cX8_init 59 = .ok (.aload_n 0, 1) := by decide +kernel
theorem dX8_init_60 : decode cX8_init 60 = .ok (.iconst 0, 1) := by decide +kernel
theorem dX8_init_61 : decode cX8_init 61 = .ok (.putfield 37, 3) := by decide +kernel
theorem dX8_init_64 : decode cX8_init 64 = .ok (.aload_n 0, 1) := by decide +kernel
theorem dX8_init_65 : decode cX8_init 65 = .ok (.aload_n 1, 1) := by decide +kernel
theorem dX8_init_66 : decode cX8_init 66 = .ok (.putfield 40, 3) := by decide +kernel
theorem dX8_init_69 : decode cX8_init 69 = .ok (.iconst 0, 1) := by decide +kernel
theorem dX8_init_70 : decode cX8_init 70 = .ok (.istore_n 2, 1) := by decide +kernel
theorem dX8_init_71 : decode cX8_init 71 = .ok (.iconst 0, 1) := by decide +kernel
theorem dX8_init_72 : decode cX8_init 72 = .ok (.istore_n 3, 1) := by decide +kernel
theorem dX8_init_73 : decode cX8_init 73 = .ok (.iconst 0, 1) := by decide +kernel
theorem dX8_init_74 : decode cX8_init 74 = .ok (.istore 4, 2) := by decide +kernel
theorem dX8_init_76 : decode cX8_init 76 = .ok (.iconst 0, 1) := by decide +kernel
theorem dX8_init_77 : decode cX8_init 77 = .ok (.istore 5, 2) := by decide +kernel
theorem dX8_init_79 : decode cX8_init 79 = .ok (.iload 5, 2) := by decide +kernel
theorem dX8_init_81 : decode cX8_init 81 = .ok (.ldc 44, 2) := by decide +kernel
theorem dX8_init_83 : decode cX8_init 83 = .ok (.invokevirtual 46, 3) := by decide +kernel
theorem dX8_init_86 : decode cX8_init 86 = .ok (.if_icmp .ge 72, 3) := by decide +kernel
theorem dX8_init_89 : decode cX8_init 89 = .ok (.iload_n 2, 1) := by decide +kernel
theorem dX8_init_90 : decode cX8_init 90 = .ok (.bipush 27, 2) := by decide +kernel
theorem dX8_init_92 : decode cX8_init 92 = .ok (.if_icmp .ge 66, 3) := by decide +kernel
theorem dX8_init_95 : decode cX8_init 95 = .ok (.ldc 44, 2) := by decide +kernel
theorem dX8_init_97 : decode cX8_init 97 = .ok (.iload 5, 2) := by decide +kernel
theorem dX8_init_99 : decode cX8_init 99 = .ok (.invokevirtual 51, 3) := by decide +kernel
theorem dX8_init_102 : decode cX8_init 102 = .ok (.istore 6, 2) := by decide +kernel
theorem dX8_init_104 : decode cX8_init 104 = .ok (.iload 6, 2) := by decide +kernel
theorem dX8_init_106 : decode cX8_init 106 = .ok (.bipush 32, 2) := by decide +kernel
theorem dX8_init_108 : decode cX8_init 108 = .ok (.if_icmp .ne 29, 3) := by decide +kernel
theorem dX8_init_111 : decode cX8_init 111 = .ok (.aload_n 0, 1) := by decide +kernel
theorem dX8_init_112 : decode cX8_init 112 = .ok (.getfield 11, 3) := by decide +kernel
theorem dX8_init_115 : decode cX8_init 115 = .ok (.iload_n 2, 1) := by decide +kernel
theorem dX8_init_116 : decode cX8_init 116 = .ok (.iload_n 3, 1) := by decide +kernel
theorem dX8_init_117 : decode cX8_init 117 = .ok (.iconst 5, 1) := by decide +kernel
theorem dX8_init_118 : decode cX8_init 118 = .ok (.bipush 6, 2) := by decide +kernel
theorem dX8_init_120 : decode cX8_init 120 = .ok (.iload 4, 2) := by decide +kernel
theorem dX8_init_122 : decode cX8_init 122 = .ok (.isub, 1) := by decide +kernel
theorem dX8_init_123 : decode cX8_init 123 = .ok (.imul, 1) := by decide +kernel
theorem dX8_init_124 : decode cX8_init 124 = .ok (.ishl, 1) := by decide +kernel
theorem dX8_init_125 : decode cX8_init 125 = .ok (.iastore, 1) := by decide +kernel
theorem dX8_init_126 : decode cX8_init 126 = .ok (.iinc 2 1, 3) := by decide +kernel
theorem dX8_init_129 : decode cX8_init 129 = .ok (.iconst 0, 1) := by decide +kernel
theorem dX8_init_130 : decode cX8_init 130 = .ok (.istore_n 3, 1) := by decide +kernel
theorem dX8_init_131 : decode cX8_init 131 = .ok (.iconst 0, 1) := by decide +kernel
theorem dX8_init_132 : decode cX8_init 132 = .ok (.istore 4, 2) := by decide +kernel
theorem dX8_init_134 : decode cX8_init 134 = .ok (.goto 18, 3) := by decide +kernel
theorem dX8_init_137 : decode cX8_init 137 = .ok (.iload_n 3, 1) := by decide +kernel
theorem dX8_init_138 : decode cX8_init 138 = .ok (.iconst 5, 1) := by decide +kernel
theorem dX8_init_139 : decode cX8_init 139 = .ok (.ishl, 1) := by decide +kernel
theorem dX8_init_140 : decode cX8_init 140 = .ok (.iload 6, 2) := by decide +kernel
theorem dX8_init_142 : decode cX8_init 142 = .ok (.bipush 97, 2) := by decide +kernel
theorem dX8_init_144 : decode cX8_init 144 = .ok (.isub, 1) := by decide +kernel
theorem dX8_init_145 : decode cX8_init 145 = .ok (.iconst 1, 1) := by decide +kernel
theorem dX8_init_146 : decode cX8_init 146 = .ok (.iadd, 1) := by decide +kernel
theorem dX8_init_147 : decode cX8_init 147 = .ok (.ior, 1) := by decide +kernel
theorem dX8_init_148 : decode cX8_init 148 = .ok (.istore_n 3, 1) := by decide +kernel
theorem dX8_init_149 : decode cX8_init 149 = .ok (.iinc 4 1, 3) := by decide +kernel
theorem dX8_init_152 : decode cX8_init 152 = .ok (.iinc 5 1, 3) := by decide +kernel
theorem dX8_init_155 : decode cX8_init 155 = .ok (.goto (-76), 3) := by decide +kernel
theorem dX8_init_158 : decode cX8_init 158 = .ok (.return_, 1) := by decide +kernel
noncomputable def b_X8_init_u_0 (rec : Rk) (h : Hp) : Option (Int × Hp) :=
  ckp (blk h 47 0) <|
  lt (alA h 47 0) fun h1 =>
  lt (sR h1 8 0 0 (some (47, 0))) fun h2 =>
  lt (sI h2 8 0 2 0) fun h3 =>
  lt (sI h3 8 0 3 0) fun h4 =>
  lt (sI h4 8 0 4 0) fun h5 =>
  lt (sI h5 8 0 5 0) fun h6 =>
  ckp (blk h6 48 0) <|
  lt (alA h6 48 0) fun h7 =>
  lt (sR h7 8 0 6 (some (48, 0))) fun h8 =>
  ckp (blk h8 49 0) <|
  lt (alA h8 49 0) fun h9 =>
  lt (sR h9 8 0 7 (some (49, 0))) fun h10 =>
  ckp (blk h10 50 0) <|
  lt (alA h10 50 0) fun h11 =>
  lt (sR h11 8 0 8 (some (50, 0))) fun h12 =>
  lt (sI h12 8 0 9 0) fun h13 =>
  lt (sR h13 8 0 1 (some (58, 0))) fun h14 =>
  rec 1 [0, 0, 0, 0] h14
noncomputable def b_X8_init_u_1 (rec : Rk) (x2 x3 x4 x5 : Int) (h : Hp) : Option (Int × Hp) :=
  bd (f_J0_length_8abf5_u h) fun v1 h2 =>
  if v1 ≤ x5 then (
    some (0, h2)
  ) else (
    if 27 ≤ x2 then (
      some (0, h2)
    ) else (
      bd (f_J0_charAt_5068e_u x5 h2) fun v3 h4 =>
      if v3 = 32 then (
        ck (gR h4 8 0 0 = some (47, 0)) <|
        ck (-2147483648 ≤ 6 - x4 ∧ 6 - x4 < 2147483648) <|
        ck (-2147483648 ≤ 5 * (6 - x4) ∧ 5 * (6 - x4) < 2147483648) <|
        ck (0 ≤ x2 ∧ x2 < 27) <|
        lt (sI h4 47 0 x2 (bshl x3 (5 * (6 - x4)))) fun h5 =>
        ck (-2147483648 ≤ x2 + 1 ∧ x2 + 1 < 2147483648) <|
        rec 2 [x2 + 1, 0, 0, x5] h5
      ) else (
        ck (-2147483648 ≤ v3 - 97 ∧ v3 - 97 < 2147483648) <|
        ck (-2147483648 ≤ (v3 - 97) + 1 ∧ (v3 - 97) + 1 < 2147483648) <|
        lt (bor (bshl x3 5) ((v3 - 97) + 1)) fun z6 =>
        ck (-2147483648 ≤ x4 + 1 ∧ x4 + 1 < 2147483648) <|
        rec 2 [x2, z6, x4 + 1, x5] h4
      )
    )
  )
noncomputable def b_X8_init_u_2 (rec : Rk) (x2 x3 x4 x5 : Int) (h : Hp) : Option (Int × Hp) :=
  ck (-2147483648 ≤ x5 + 1 ∧ x5 + 1 < 2147483648) <|
  rec 1 [x2, x3, x4, x5 + 1] h
noncomputable def g_X8_init_u (n : Nat) : Rk := Nat.rec (motive := fun _ => Rk) (fun _ _ _ => none) (fun _ rec k l h => if k = 0 then b_X8_init_u_0 rec  h else if k = 1 then b_X8_init_u_1 rec (l.getD 0 0) (l.getD 1 0) (l.getD 2 0) (l.getD 3 0) h else if k = 2 then b_X8_init_u_2 rec (l.getD 0 0) (l.getD 1 0) (l.getD 2 0) (l.getD 3 0) h else none) n
noncomputable def f_X8_init_u (h : Hp) : Option (Int × Hp) := g_X8_init_u FU 0 [] h
set_option maxHeartbeats 4000000 in
set_option maxRecDepth 100000 in
theorem t_X8_init_u_0 (E : xE) (d : Nat) (rec : Rk) (r : Int × Hp) (hr_79 : ∀ (x2 x3 x4 x5 : Int) (h : Hp), rec 1 [x2, x3, x4, x5] h = some r → X E mX8_init (d + 5) (4, 2430) (4, 2430) 79 [some (xr 8 0), none, some (xi x2), some (xi x3), some (xi x4), some (xi x5), none] [] h (PuV r)) (h : Hp) (hF : b_X8_init_u_0 rec  h = some r) : X E mX8_init (d + 5) (4, 2430) (0, 0) 0 [some (xr 8 0), some (xr 58 0), none, none, none, none, none] [] h (PuV r) := by
  unfold b_X8_init_u_0 at hF
  refine x_aload_n (i := 0) (b := 1) dX8_init_0 rfl rfl rfl ?_
  refine x_objInit (b := 4) dX8_init_1 ki_428 ki_146 ki_147 (Nat.le_of_ble_eq_true rfl) rfl ?_
  refine x_aload_n (i := 0) (b := 5) dX8_init_4 rfl rfl rfl ?_
  refine x_bipush (n := 27) (b := 7) dX8_init_5 (by decide) rfl ?_
  obtain ⟨hs, hF⟩ := ckp_e hF
  refine x_newa (r := 47) (i := 0) (N := 27) (b := 9) dX8_init_7 ak_47 (by decide) rfl rfl ki_223 rfl rfl (by decide) (fun C h9 => by cases h9) hs ⟨Nat.le_of_ble_eq_true rfl, Nat.le_of_ble_eq_true rfl⟩ rfl ?_
  obtain ⟨h1, e_h1, hF⟩ := lt_e hF
  refine x_hp (h2 := h1) e_h1 ?_
  refine x_u (u2 := (1, 27)) rfl ?_
  refine x_putAF (b := 12) fk_X8_11 dX8_init_9 rfl rfl (fun _ _ _ h9 => by cases h9; rfl) rfl 0 rfl ?_
  obtain ⟨h2, e_h2, hF⟩ := lt_e hF
  refine x_hp (h2 := h2) e_h2 ?_
  refine x_aload_n (i := 0) (b := 13) dX8_init_12 rfl rfl rfl ?_
  refine x_iconst (n := 0) (b := 14) dX8_init_13 (by decide) rfl ?_
  refine x_putI (b := 17) fk_X8_15 dX8_init_14 rfl rfl 2 rfl ?_
  obtain ⟨h3, e_h3, hF⟩ := lt_e hF
  refine x_hp (h2 := h3) e_h3 ?_
  refine x_aload_n (i := 0) (b := 18) dX8_init_17 rfl rfl rfl ?_
  refine x_iconst (n := 0) (b := 19) dX8_init_18 (by decide) rfl ?_
  refine x_putI (b := 22) fk_X8_19 dX8_init_19 rfl rfl 3 rfl ?_
  obtain ⟨h4, e_h4, hF⟩ := lt_e hF
  refine x_hp (h2 := h4) e_h4 ?_
  refine x_aload_n (i := 0) (b := 23) dX8_init_22 rfl rfl rfl ?_
  refine x_iconst (n := 0) (b := 24) dX8_init_23 (by decide) rfl ?_
  refine x_putI (b := 27) fk_X8_22 dX8_init_24 rfl rfl 4 rfl ?_
  obtain ⟨h5, e_h5, hF⟩ := lt_e hF
  refine x_hp (h2 := h5) e_h5 ?_
  refine x_aload_n (i := 0) (b := 28) dX8_init_27 rfl rfl rfl ?_
  refine x_iconst (n := 0) (b := 29) dX8_init_28 (by decide) rfl ?_
  refine x_putI (b := 32) fk_X8_25 dX8_init_29 rfl rfl 5 rfl ?_
  obtain ⟨h6, e_h6, hF⟩ := lt_e hF
  refine x_hp (h2 := h6) e_h6 ?_
  refine x_aload_n (i := 0) (b := 33) dX8_init_32 rfl rfl rfl ?_
  refine x_sipush (n := 801) (b := 36) dX8_init_33 (by decide) rfl ?_
  obtain ⟨hs, hF⟩ := ckp_e hF
  refine x_newa (r := 48) (i := 0) (N := 801) (b := 38) dX8_init_36 ak_48 (by decide) rfl rfl ki_223 rfl rfl (by decide) (fun C h9 => by cases h9) hs ⟨Nat.le_of_ble_eq_true rfl, Nat.le_of_ble_eq_true rfl⟩ rfl ?_
  obtain ⟨h7, e_h7, hF⟩ := lt_e hF
  refine x_hp (h2 := h7) e_h7 ?_
  refine x_u (u2 := (2, 828)) rfl ?_
  refine x_putAF (b := 41) fk_X8_28 dX8_init_38 rfl rfl (fun _ _ _ h9 => by cases h9; rfl) rfl 6 rfl ?_
  obtain ⟨h8, e_h8, hF⟩ := lt_e hF
  refine x_hp (h2 := h8) e_h8 ?_
  refine x_aload_n (i := 0) (b := 42) dX8_init_41 rfl rfl rfl ?_
  refine x_sipush (n := 801) (b := 45) dX8_init_42 (by decide) rfl ?_
  obtain ⟨hs, hF⟩ := ckp_e hF
  refine x_newa (r := 49) (i := 0) (N := 801) (b := 47) dX8_init_45 ak_49 (by decide) rfl rfl ki_223 rfl rfl (by decide) (fun C h9 => by cases h9) hs ⟨Nat.le_of_ble_eq_true rfl, Nat.le_of_ble_eq_true rfl⟩ rfl ?_
  obtain ⟨h9, e_h9, hF⟩ := lt_e hF
  refine x_hp (h2 := h9) e_h9 ?_
  refine x_u (u2 := (3, 1629)) rfl ?_
  refine x_putAF (b := 50) fk_X8_31 dX8_init_47 rfl rfl (fun _ _ _ h9 => by cases h9; rfl) rfl 7 rfl ?_
  obtain ⟨h10, e_h10, hF⟩ := lt_e hF
  refine x_hp (h2 := h10) e_h10 ?_
  refine x_aload_n (i := 0) (b := 51) dX8_init_50 rfl rfl rfl ?_
  refine x_sipush (n := 801) (b := 54) dX8_init_51 (by decide) rfl ?_
  obtain ⟨hs, hF⟩ := ckp_e hF
  refine x_newa (r := 50) (i := 0) (N := 801) (b := 56) dX8_init_54 ak_50 (by decide) rfl rfl ki_223 rfl rfl (by decide) (fun C h9 => by cases h9) hs ⟨Nat.le_of_ble_eq_true rfl, Nat.le_of_ble_eq_true rfl⟩ rfl ?_
  obtain ⟨h11, e_h11, hF⟩ := lt_e hF
  refine x_hp (h2 := h11) e_h11 ?_
  refine x_u (u2 := (4, 2430)) rfl ?_
  refine x_putAF (b := 59) fk_X8_34 dX8_init_56 rfl rfl (fun _ _ _ h9 => by cases h9; rfl) rfl 8 rfl ?_
  obtain ⟨h12, e_h12, hF⟩ := lt_e hF
  refine x_hp (h2 := h12) e_h12 ?_
  refine x_aload_n (i := 0) (b := 60) dX8_init_59 rfl rfl rfl ?_
  refine x_iconst (n := 0) (b := 61) dX8_init_60 (by decide) rfl ?_
  refine x_putI (b := 64) fk_X8_37 dX8_init_61 rfl rfl 9 rfl ?_
  obtain ⟨h13, e_h13, hF⟩ := lt_e hF
  refine x_hp (h2 := h13) e_h13 ?_
  refine x_aload_n (i := 0) (b := 65) dX8_init_64 rfl rfl rfl ?_
  refine x_aload_n (i := 1) (b := 66) dX8_init_65 rfl rfl rfl ?_
  refine x_putAF (b := 69) fk_X8_40 dX8_init_66 rfl rfl (fun _ _ _ h9 => by cases h9; rfl) rfl 1 rfl ?_
  obtain ⟨h14, e_h14, hF⟩ := lt_e hF
  refine x_hp (h2 := h14) e_h14 ?_
  refine x_iconst (n := 0) (b := 70) dX8_init_69 (by decide) rfl ?_
  refine x_istore_n (i := 2) (b := 71) (ls2 := [some (xr 8 0), some (xr 58 0), some (xi 0), none, none, none, none]) dX8_init_70 rfl (Nat.le_of_ble_eq_true rfl) rfl rfl ?_
  refine x_iconst (n := 0) (b := 72) dX8_init_71 (by decide) rfl ?_
  refine x_istore_n (i := 3) (b := 73) (ls2 := [some (xr 8 0), some (xr 58 0), some (xi 0), some (xi 0), none, none, none]) dX8_init_72 rfl (Nat.le_of_ble_eq_true rfl) rfl rfl ?_
  refine x_iconst (n := 0) (b := 74) dX8_init_73 (by decide) rfl ?_
  refine x_istore (i := 4) (b := 76) (ls2 := [some (xr 8 0), some (xr 58 0), some (xi 0), some (xi 0), some (xi 0), none, none]) dX8_init_74 (Nat.le_of_ble_eq_true rfl) rfl rfl ?_
  refine x_iconst (n := 0) (b := 77) dX8_init_76 (by decide) rfl ?_
  refine x_istore (i := 5) (b := 79) (ls2 := [some (xr 8 0), some (xr 58 0), some (xi 0), some (xi 0), some (xi 0), some (xi 0), none]) dX8_init_77 (Nat.le_of_ble_eq_true rfl) rfl rfl ?_
  exact x_dp (ls2 := [some (xr 8 0), none, some (xi 0), some (xi 0), some (xi 0), some (xi 0), none]) ⟨rfl, rfl, rfl, rfl, rfl, trivial⟩ (hr_79 0 0 0 0 h14 hF)
set_option maxHeartbeats 4000000 in
set_option maxRecDepth 100000 in
theorem t_X8_init_u_1 (E : xE) (d : Nat) (rec : Rk) (r : Int × Hp) (hr_152 : ∀ (x2 x3 x4 x5 : Int) (h : Hp), rec 2 [x2, x3, x4, x5] h = some r → X E mX8_init (d + 5) (4, 2430) (4, 2430) 152 [some (xr 8 0), none, some (xi x2), some (xi x3), some (xi x4), some (xi x5), none] [] h (PuV r)) (x2 x3 x4 x5 : Int) (h : Hp) (hF : b_X8_init_u_1 rec x2 x3 x4 x5 h = some r) : X E mX8_init (d + 5) (4, 2430) (4, 2430) 79 [some (xr 8 0), none, some (xi x2), some (xi x3), some (xi x4), some (xi x5), none] [] h (PuV r) := by
  unfold b_X8_init_u_1 at hF
  refine x_iload (i := 5) (b := 81) dX8_init_79 rfl rfl ?_
  refine x_ldcS8 (b := 83) rfl dX8_init_81 rfl ?_
  obtain ⟨v1, h2, hq, hF⟩ := bd_e hF
  refine x_callVS (as := []) (rest := [xi x5]) (b := 86) (c_J0_length_8abf5_u (d + 2) h _ hq) rfl dX8_init_83 cx_X8_46 rfl rfl (Nat.le_of_ble_eq_true rfl) ⟨Nat.le_of_ble_eq_true rfl, Nat.le_of_ble_eq_true rfl⟩ rfl (fun rv hh hp _ => ?_)
  refine x_u (u2 := (4, 2430)) rfl ?_
  obtain ⟨rfl, rfl⟩ := hp
  refine x_icmp_ge (tgt := 158) (b := 89) dX8_init_86 (by decide) rfl (fun hc => ?_) (fun hc => ?_)
  · replace hF := br_T hc hF
    refine x_return dX8_init_158 rfl ⟨Nat.le_of_ble_eq_true rfl, Nat.le_of_ble_eq_true rfl⟩ ?_
    cases hF
    exact ⟨rfl, rfl⟩
  · replace hF := br_F hc hF
    refine x_iload_n (i := 2) (b := 90) dX8_init_89 rfl rfl rfl ?_
    refine x_bipush (n := 27) (b := 92) dX8_init_90 (by decide) rfl ?_
    refine x_icmp_ge (tgt := 158) (b := 95) dX8_init_92 (by decide) rfl (fun hc => ?_) (fun hc => ?_)
    · replace hF := br_T hc hF
      refine x_return dX8_init_158 rfl ⟨Nat.le_of_ble_eq_true rfl, Nat.le_of_ble_eq_true rfl⟩ ?_
      cases hF
      exact ⟨rfl, rfl⟩
    · replace hF := br_F hc hF
      refine x_ldcS8 (b := 97) rfl dX8_init_95 rfl ?_
      refine x_iload (i := 5) (b := 99) dX8_init_97 rfl rfl ?_
      obtain ⟨v3, h4, hq, hF⟩ := bd_e hF
      refine x_callVS (as := [xi x5]) (rest := []) (b := 102) (c_J0_charAt_5068e_u d x5 h2 _ hq) rfl dX8_init_99 cx_X8_51 rfl rfl (Nat.le_of_ble_eq_true rfl) ⟨Nat.le_of_ble_eq_true rfl, Nat.le_of_ble_eq_true rfl⟩ rfl (fun rv hh hp _ => ?_)
      refine x_u (u2 := (4, 2430)) rfl ?_
      obtain ⟨rfl, rfl⟩ := hp
      refine x_istore (i := 6) (b := 104) (ls2 := [some (xr 8 0), none, some (xi x2), some (xi x3), some (xi x4), some (xi x5), some (xi v3)]) dX8_init_102 (Nat.le_of_ble_eq_true rfl) rfl rfl ?_
      refine x_iload (i := 6) (b := 106) dX8_init_104 rfl rfl ?_
      refine x_bipush (n := 32) (b := 108) dX8_init_106 (by decide) rfl ?_
      refine x_icmp_ne (tgt := 137) (b := 111) dX8_init_108 (by decide) rfl (fun hc => ?_) (fun hc => ?_)
      · replace hF := br_F hc hF
        refine x_iload_n (i := 3) (b := 138) dX8_init_137 rfl rfl rfl ?_
        refine x_iconst (n := 5) (b := 139) dX8_init_138 (by decide) rfl ?_
        refine x_ishl (b := 140) dX8_init_139 rfl ?_
        refine x_iload (i := 6) (b := 142) dX8_init_140 rfl rfl ?_
        refine x_bipush (n := 97) (b := 144) dX8_init_142 (by decide) rfl ?_
        obtain ⟨hs, hF⟩ := ck_e hF
        refine x_isub (b := 145) dX8_init_144 hs rfl ?_
        refine x_iconst (n := 1) (b := 146) dX8_init_145 (by decide) rfl ?_
        obtain ⟨hs, hF⟩ := ck_e hF
        refine x_iadd (b := 147) dX8_init_146 hs rfl ?_
        refine x_ior (b := 148) dX8_init_147 rfl ?_
        obtain ⟨z6, e_z6, hF⟩ := lt_e hF
        refine x_eq (y := z6) e_z6 ?_
        refine x_istore_n (i := 3) (b := 149) (ls2 := [some (xr 8 0), none, some (xi x2), some (xi z6), some (xi x4), some (xi x5), some (xi v3)]) dX8_init_148 rfl (Nat.le_of_ble_eq_true rfl) rfl rfl ?_
        obtain ⟨hs, hF⟩ := ck_e hF
        refine x_iinc (i := 4) (b := 152) (ls2 := [some (xr 8 0), none, some (xi x2), some (xi z6), some (xi (x4 + 1)), some (xi x5), some (xi v3)]) dX8_init_149 rfl (Nat.le_of_ble_eq_true rfl) hs rfl rfl ?_
        exact x_dp (ls2 := [some (xr 8 0), none, some (xi x2), some (xi z6), some (xi (x4 + 1)), some (xi x5), none]) ⟨rfl, rfl, rfl, rfl, rfl, trivial⟩ (hr_152 x2 z6 (x4 + 1) x5 h4 hF)
      · replace hF := br_T hc hF
        refine x_aload_n (i := 0) (b := 112) dX8_init_111 rfl rfl rfl ?_
        obtain ⟨hs, hF⟩ := ck_e hF
        refine x_getR (v := some (47, 0)) (b := 115) fk_X8_11 dX8_init_112 rfl hs rfl ?_
        refine x_iload_n (i := 2) (b := 116) dX8_init_115 rfl rfl rfl ?_
        refine x_iload_n (i := 3) (b := 117) dX8_init_116 rfl rfl rfl ?_
        refine x_iconst (n := 5) (b := 118) dX8_init_117 (by decide) rfl ?_
        refine x_bipush (n := 6) (b := 120) dX8_init_118 (by decide) rfl ?_
        refine x_iload (i := 4) (b := 122) dX8_init_120 rfl rfl ?_
        obtain ⟨hs, hF⟩ := ck_e hF
        refine x_isub (b := 123) dX8_init_122 hs rfl ?_
        obtain ⟨hs, hF⟩ := ck_e hF
        refine x_imul (b := 124) dX8_init_123 hs rfl ?_
        refine x_ishl (b := 125) dX8_init_124 rfl ?_
        obtain ⟨hs, hF⟩ := ck_e hF
        have hs1 := hs
        refine x_iast (b := 126) ak_47 dX8_init_125 hs1 rfl ?_
        obtain ⟨h5, e_h5, hF⟩ := lt_e hF
        refine x_hp (h2 := h5) e_h5 ?_
        obtain ⟨hs, hF⟩ := ck_e hF
        refine x_iinc (i := 2) (b := 129) (ls2 := [some (xr 8 0), none, some (xi (x2 + 1)), some (xi x3), some (xi x4), some (xi x5), some (xi v3)]) dX8_init_126 rfl (Nat.le_of_ble_eq_true rfl) hs rfl rfl ?_
        refine x_iconst (n := 0) (b := 130) dX8_init_129 (by decide) rfl ?_
        refine x_istore_n (i := 3) (b := 131) (ls2 := [some (xr 8 0), none, some (xi (x2 + 1)), some (xi 0), some (xi x4), some (xi x5), some (xi v3)]) dX8_init_130 rfl (Nat.le_of_ble_eq_true rfl) rfl rfl ?_
        refine x_iconst (n := 0) (b := 132) dX8_init_131 (by decide) rfl ?_
        refine x_istore (i := 4) (b := 134) (ls2 := [some (xr 8 0), none, some (xi (x2 + 1)), some (xi 0), some (xi 0), some (xi x5), some (xi v3)]) dX8_init_132 (Nat.le_of_ble_eq_true rfl) rfl rfl ?_
        refine x_goto (tgt := 152) dX8_init_134 (by decide) ?_
        exact x_dp (ls2 := [some (xr 8 0), none, some (xi (x2 + 1)), some (xi 0), some (xi 0), some (xi x5), none]) ⟨rfl, rfl, rfl, rfl, rfl, trivial⟩ (hr_152 (x2 + 1) 0 0 x5 h5 hF)
set_option maxHeartbeats 4000000 in
set_option maxRecDepth 100000 in
theorem t_X8_init_u_2 (E : xE) (d : Nat) (rec : Rk) (r : Int × Hp) (hr_79 : ∀ (x2 x3 x4 x5 : Int) (h : Hp), rec 1 [x2, x3, x4, x5] h = some r → X E mX8_init (d + 5) (4, 2430) (4, 2430) 79 [some (xr 8 0), none, some (xi x2), some (xi x3), some (xi x4), some (xi x5), none] [] h (PuV r)) (x2 x3 x4 x5 : Int) (h : Hp) (hF : b_X8_init_u_2 rec x2 x3 x4 x5 h = some r) : X E mX8_init (d + 5) (4, 2430) (4, 2430) 152 [some (xr 8 0), none, some (xi x2), some (xi x3), some (xi x4), some (xi x5), none] [] h (PuV r) := by
  unfold b_X8_init_u_2 at hF
  obtain ⟨hs, hF⟩ := ck_e hF
  refine x_iinc (i := 5) (b := 155) (ls2 := [some (xr 8 0), none, some (xi x2), some (xi x3), some (xi x4), some (xi (x5 + 1)), none]) dX8_init_152 rfl (Nat.le_of_ble_eq_true rfl) hs rfl rfl ?_
  refine x_goto (tgt := 79) dX8_init_155 (by decide) ?_
  exact x_dp (ls2 := [some (xr 8 0), none, some (xi x2), some (xi x3), some (xi x4), some (xi (x5 + 1)), none]) ⟨rfl, rfl, rfl, rfl, rfl, trivial⟩ (hr_79 x2 x3 x4 (x5 + 1) h hF)
set_option maxHeartbeats 4000000 in
set_option maxRecDepth 100000 in
theorem u_X8_init_u (E : xE) (d : Nat) (r : Int × Hp) : ∀ n : Nat, (∀ (h : Hp), g_X8_init_u n 0 [] h = some r → X E mX8_init (d + 5) (4, 2430) (0, 0) 0 [some (xr 8 0), some (xr 58 0), none, none, none, none, none] [] h (PuV r)) ∧ (∀ (x2 x3 x4 x5 : Int) (h : Hp), g_X8_init_u n 1 [x2, x3, x4, x5] h = some r → X E mX8_init (d + 5) (4, 2430) (4, 2430) 79 [some (xr 8 0), none, some (xi x2), some (xi x3), some (xi x4), some (xi x5), none] [] h (PuV r)) ∧ (∀ (x2 x3 x4 x5 : Int) (h : Hp), g_X8_init_u n 2 [x2, x3, x4, x5] h = some r → X E mX8_init (d + 5) (4, 2430) (4, 2430) 152 [some (xr 8 0), none, some (xi x2), some (xi x3), some (xi x4), some (xi x5), none] [] h (PuV r)) := by
  intro n
  induction n with
  | zero => exact ⟨fun _ hF => no_e (r := r) hF, fun _ _ _ _ _ hF => no_e (r := r) hF, fun _ _ _ _ _ hF => no_e (r := r) hF⟩
  | succ n ih => exact ⟨fun h hF => t_X8_init_u_0 E d (g_X8_init_u n) r ih.2.1  h hF, fun x2 x3 x4 x5 h hF => t_X8_init_u_1 E d (g_X8_init_u n) r ih.2.2 x2 x3 x4 x5 h hF, fun x2 x3 x4 x5 h hF => t_X8_init_u_2 E d (g_X8_init_u n) r ih.2.1 x2 x3 x4 x5 h hF⟩
theorem c_X8_init_u (d : Nat) (h : Hp) (r : Int × Hp) (hF : f_X8_init_u  h = some r) : Sp mX8_init (d + 5) (4, 2430) [xr 8 0, xr 58 0] h (PuV r) :=
  sp_of (by decide) rfl (Nat.le_of_ble_eq_true rfl) (ls := [some (xr 8 0), some (xr 58 0), none, none, none, none, none]) rfl (fun E _ => (u_X8_init_u E d r FU).1  h hF)
theorem dX7_init_0 : decode cX7_init 0 = .ok (.aload_n 0, 1) := by decide +kernel
theorem dX7_init_1 : decode cX7_init 1 = .ok (.invokespecial 3, 3) := by decide +kernel
theorem dX7_init_4 : decode cX7_init 4 = .ok (.aload_n 0, 1) := by decide +kernel
theorem dX7_init_5 : decode cX7_init 5 = .ok (.iconst 0, 1) := by decide +kernel
theorem dX7_init_6 : decode cX7_init 6 = .ok (.putfield 9, 3) := by decide +kernel
theorem dX7_init_9 : decode cX7_init 9 = .ok (.aload_n 0, 1) := by decide +kernel
theorem dX7_init_10 : decode cX7_init 10 = .ok (.iconst 0, 1) := by decide +kernel
theorem dX7_init_11 : decode cX7_init 11 = .ok (.putfield 15, 3) := by decide +kernel
theorem dX7_init_14 : decode cX7_init 14 = .ok (.aload_n 0, 1) := by decide +kernel
theorem dX7_init_15 : decode cX7_init 15 = .ok (.iconst (-1), 1) := by decide +kernel
theorem dX7_init_16 : decode cX7_init 16 = .ok (.putfield 18, 3) := by decide +kernel
theorem dX7_init_19 : decode cX7_init 19 = .ok (.aload_n 0, 1) := by decide +kernel
theorem dX7_init_20 : decode cX7_init 20 = .ok (.iconst 0, 1) := by decide +kernel
theorem dX7_init_21 : decode cX7_init 21 = .ok (.putfield 21, 3) := by decide +kernel
theorem dX7_init_24 : decode cX7_init 24 = .ok (.aload_n 0, 1) := by decide +kernel
theorem dX7_init_25 : decode cX7_init 25 = .ok (.iconst 0, 1) := by decide +kernel
theorem dX7_init_26 : decode cX7_init 26 = .ok (.putfield 26, 3) := by decide +kernel
theorem dX7_init_29 : decode cX7_init 29 = .ok (.aload_n 0, 1) := by decide +kernel
theorem dX7_init_30 : decode cX7_init 30 = .ok (.iconst 0, 1) := by decide +kernel
theorem dX7_init_31 : decode cX7_init 31 = .ok (.putfield 29, 3) := by decide +kernel
theorem dX7_init_34 : decode cX7_init 34 = .ok (.aload_n 0, 1) := by decide +kernel
theorem dX7_init_35 : decode cX7_init 35 = .ok (.iconst 0, 1) := by decide +kernel
theorem dX7_init_36 : decode cX7_init 36 = .ok (.putfield 32, 3) := by decide +kernel
theorem dX7_init_39 : decode cX7_init 39 = .ok (.aload_n 0, 1) := by decide +kernel
theorem dX7_init_40 : decode cX7_init 40 = .ok (.iconst (-1), 1) := by decide +kernel
theorem dX7_init_41 : decode cX7_init 41 = .ok (.putfield 35, 3) := by decide +kernel
theorem dX7_init_44 : decode cX7_init 44 = .ok (.aload_n 0, 1) := by decide +kernel
theorem dX7_init_45 : decode cX7_init 45 = .ok (.iconst (-1), 1) := by decide +kernel
theorem dX7_init_46 : decode cX7_init 46 = .ok (.putfield 38, 3) := by decide +kernel
theorem dX7_init_49 : decode cX7_init 49 = .ok (.aload_n 0, 1) := by decide +kernel
theorem dX7_init_50 : decode cX7_init 50 = .ok (.iconst 0, 1) := by decide +kernel
theorem dX7_init_51 : decode cX7_init 51 = .ok (.putfield 41, 3) := by decide +kernel
theorem dX7_init_54 : decode cX7_init 54 = .ok (.aload_n 0, 1) := by decide +kernel
theorem dX7_init_55 : decode cX7_init 55 = .ok (.iconst 0, 1) := by decide +kernel
theorem dX7_init_56 : decode cX7_init 56 = .ok (.putfield 44, 3) := by decide +kernel
theorem dX7_init_59 : decode cX7_init 59 = .ok (.aload_n 0, 1) := by decide +kernel
theorem dX7_init_60 : decode cX7_init 60 = .ok (.iconst 0, 1) := by decide +kernel
theorem dX7_init_61 : decode cX7_init 61 = .ok (.putfield 47, 3) := by decide +kernel
theorem dX7_init_64 : decode cX7_init 64 = .ok (.aload_n 0, 1) := by decide +kernel
theorem dX7_init_65 : decode cX7_init 65 = .ok (.bipush 72, 2) := by decide +kernel
theorem dX7_init_67 : decode cX7_init 67 = .ok (.newarray .int, 2) := by decide +kernel
theorem dX7_init_69 : decode cX7_init 69 = .ok (.putfield 52, 3) := by decide +kernel
theorem dX7_init_72 : decode cX7_init 72 = .ok (.aload_n 0, 1) := by decide +kernel
theorem dX7_init_73 : decode cX7_init 73 = .ok (.iconst 0, 1) := by decide +kernel
theorem dX7_init_74 : decode cX7_init 74 = .ok (.putfield 56, 3) := by decide +kernel
theorem dX7_init_77 : decode cX7_init 77 = .ok (.aload_n 0, 1) := by decide +kernel
theorem dX7_init_78 : decode cX7_init 78 = .ok (.iconst 0, 1) := by decide +kernel
theorem dX7_init_79 : decode cX7_init 79 = .ok (.putfield 59, 3) := by decide +kernel
theorem dX7_init_82 : decode cX7_init 82 = .ok (.aload_n 0, 1) := by decide +kernel
theorem dX7_init_83 : decode cX7_init 83 = .ok (.iconst 0, 1) := by decide +kernel
theorem dX7_init_84 : decode cX7_init 84 = .ok (.putfield 62, 3) := by decide +kernel
theorem dX7_init_87 : decode cX7_init 87 = .ok (.aload_n 0, 1) := by decide +kernel
theorem dX7_init_88 : decode cX7_init 88 = .ok (.iconst 1, 1) := by decide +kernel
theorem dX7_init_89 : decode cX7_init 89 = .ok (.putfield 65, 3) := by decide +kernel
theorem dX7_init_92 : decode cX7_init 92 = .ok (.aload_n 0, 1) := by decide +kernel
theorem dX7_init_93 : decode cX7_init 93 = .ok (.new 24, 3) := by decide +kernel
theorem dX7_init_96 : decode cX7_init 96 = .ok (.dup, 1) := by decide +kernel
theorem dX7_init_97 : decode cX7_init 97 = .ok (.aload_n 1, 1) := by decide +kernel
theorem dX7_init_98 : decode cX7_init 98 = .ok (.invokespecial 69, 3) := by decide +kernel
theorem dX7_init_101 : decode cX7_init 101 = .ok (.putfield 72, 3) := by decide +kernel
theorem dX7_init_104 : decode cX7_init 104 = .ok (.aload_n 0, 1) := by decide +kernel
theorem dX7_init_105 : decode cX7_init 105 = .ok (.aload_n 2, 1) := by decide +kernel
theorem dX7_init_106 : decode cX7_init 106 = .ok (.putfield 76, 3) := by decide +kernel
theorem dX7_init_109 : decode cX7_init 109 = .ok (.return_, 1) := by decide +kernel
noncomputable def b_X7_init_u_0 (rec : Rk) (x2 : Int) (h : Hp) : Option (Int × Hp) :=
  lt (sI h 7 0 2 0) fun h1 =>
  lt (sI h1 7 0 3 0) fun h2 =>
  lt (sI h2 7 0 4 (-1)) fun h3 =>
  lt (sI h3 7 0 5 0) fun h4 =>
  lt (sI h4 7 0 6 0) fun h5 =>
  lt (sI h5 7 0 7 0) fun h6 =>
  lt (sI h6 7 0 8 0) fun h7 =>
  lt (sI h7 7 0 9 (-1)) fun h8 =>
  lt (sI h8 7 0 10 (-1)) fun h9 =>
  lt (sI h9 7 0 11 0) fun h10 =>
  lt (sI h10 7 0 12 0) fun h11 =>
  lt (sI h11 7 0 13 0) fun h12 =>
  ckp (blk h12 46 0) <|
  lt (alA h12 46 0) fun h13 =>
  lt (sR h13 7 0 14 (some (46, 0))) fun h14 =>
  lt (sI h14 7 0 15 0) fun h15 =>
  lt (sI h15 7 0 16 0) fun h16 =>
  lt (sI h16 7 0 17 0) fun h17 =>
  lt (sI h17 7 0 18 1) fun h18 =>
  ckp (blk h18 8 0) <|
  lt (alA h18 8 0) fun h19 =>
  bd (f_X8_init_u h19) fun v20 h21 =>
  lt (sR h21 7 0 0 (some (8, 0))) fun h22 =>
  lt (sR h22 7 0 1 (some (0, x2))) fun h23 =>
  some (0, h23)
noncomputable def g_X7_init_u (n : Nat) : Rk := Nat.rec (motive := fun _ => Rk) (fun _ _ _ => none) (fun _ rec k l h => if k = 0 then b_X7_init_u_0 rec (l.getD 0 0) h else none) n
noncomputable def f_X7_init_u (x2 : Int) (h : Hp) : Option (Int × Hp) := g_X7_init_u FU 0 [x2] h
set_option maxHeartbeats 4000000 in
set_option maxRecDepth 100000 in
theorem t_X7_init_u_0 (E : xE) (d : Nat) (rec : Rk) (r : Int × Hp) (x2 : Int) (h : Hp) (hF : b_X7_init_u_0 rec x2 h = some r) : X E mX7_init (d + 6) (6, 2512) (0, 0) 0 [some (xr 7 0), some (xr 58 0), some (xr 0 x2)] [] h (PuV r) := by
  unfold b_X7_init_u_0 at hF
  refine x_aload_n (i := 0) (b := 1) dX7_init_0 rfl rfl rfl ?_
  refine x_objInit (b := 4) dX7_init_1 ki_422 ki_146 ki_147 (Nat.le_of_ble_eq_true rfl) rfl ?_
  refine x_aload_n (i := 0) (b := 5) dX7_init_4 rfl rfl rfl ?_
  refine x_iconst (n := 0) (b := 6) dX7_init_5 (by decide) rfl ?_
  refine x_putI (b := 9) fk_X7_9 dX7_init_6 rfl rfl 2 rfl ?_
  obtain ⟨h1, e_h1, hF⟩ := lt_e hF
  refine x_hp (h2 := h1) e_h1 ?_
  refine x_aload_n (i := 0) (b := 10) dX7_init_9 rfl rfl rfl ?_
  refine x_iconst (n := 0) (b := 11) dX7_init_10 (by decide) rfl ?_
  refine x_putI (b := 14) fk_X7_15 dX7_init_11 rfl rfl 3 rfl ?_
  obtain ⟨h2, e_h2, hF⟩ := lt_e hF
  refine x_hp (h2 := h2) e_h2 ?_
  refine x_aload_n (i := 0) (b := 15) dX7_init_14 rfl rfl rfl ?_
  refine x_iconst (n := (-1)) (b := 16) dX7_init_15 (by decide) rfl ?_
  refine x_putI (b := 19) fk_X7_18 dX7_init_16 rfl rfl 4 rfl ?_
  obtain ⟨h3, e_h3, hF⟩ := lt_e hF
  refine x_hp (h2 := h3) e_h3 ?_
  refine x_aload_n (i := 0) (b := 20) dX7_init_19 rfl rfl rfl ?_
  refine x_iconst (n := 0) (b := 21) dX7_init_20 (by decide) rfl ?_
  refine x_putI (b := 24) fk_X7_21 dX7_init_21 rfl rfl 5 rfl ?_
  obtain ⟨h4, e_h4, hF⟩ := lt_e hF
  refine x_hp (h2 := h4) e_h4 ?_
  refine x_aload_n (i := 0) (b := 25) dX7_init_24 rfl rfl rfl ?_
  refine x_iconst (n := 0) (b := 26) dX7_init_25 (by decide) rfl ?_
  refine x_putI (b := 29) fk_X7_26 dX7_init_26 rfl rfl 6 rfl ?_
  obtain ⟨h5, e_h5, hF⟩ := lt_e hF
  refine x_hp (h2 := h5) e_h5 ?_
  refine x_aload_n (i := 0) (b := 30) dX7_init_29 rfl rfl rfl ?_
  refine x_iconst (n := 0) (b := 31) dX7_init_30 (by decide) rfl ?_
  refine x_putI (b := 34) fk_X7_29 dX7_init_31 rfl rfl 7 rfl ?_
  obtain ⟨h6, e_h6, hF⟩ := lt_e hF
  refine x_hp (h2 := h6) e_h6 ?_
  refine x_aload_n (i := 0) (b := 35) dX7_init_34 rfl rfl rfl ?_
  refine x_iconst (n := 0) (b := 36) dX7_init_35 (by decide) rfl ?_
  refine x_putI (b := 39) fk_X7_32 dX7_init_36 rfl rfl 8 rfl ?_
  obtain ⟨h7, e_h7, hF⟩ := lt_e hF
  refine x_hp (h2 := h7) e_h7 ?_
  refine x_aload_n (i := 0) (b := 40) dX7_init_39 rfl rfl rfl ?_
  refine x_iconst (n := (-1)) (b := 41) dX7_init_40 (by decide) rfl ?_
  refine x_putI (b := 44) fk_X7_35 dX7_init_41 rfl rfl 9 rfl ?_
  obtain ⟨h8, e_h8, hF⟩ := lt_e hF
  refine x_hp (h2 := h8) e_h8 ?_
  refine x_aload_n (i := 0) (b := 45) dX7_init_44 rfl rfl rfl ?_
  refine x_iconst (n := (-1)) (b := 46) dX7_init_45 (by decide) rfl ?_
  refine x_putI (b := 49) fk_X7_38 dX7_init_46 rfl rfl 10 rfl ?_
  obtain ⟨h9, e_h9, hF⟩ := lt_e hF
  refine x_hp (h2 := h9) e_h9 ?_
  refine x_aload_n (i := 0) (b := 50) dX7_init_49 rfl rfl rfl ?_
  refine x_iconst (n := 0) (b := 51) dX7_init_50 (by decide) rfl ?_
  refine x_putI (b := 54) fk_X7_41 dX7_init_51 rfl rfl 11 rfl ?_
  obtain ⟨h10, e_h10, hF⟩ := lt_e hF
  refine x_hp (h2 := h10) e_h10 ?_
  refine x_aload_n (i := 0) (b := 55) dX7_init_54 rfl rfl rfl ?_
  refine x_iconst (n := 0) (b := 56) dX7_init_55 (by decide) rfl ?_
  refine x_putI (b := 59) fk_X7_44 dX7_init_56 rfl rfl 12 rfl ?_
  obtain ⟨h11, e_h11, hF⟩ := lt_e hF
  refine x_hp (h2 := h11) e_h11 ?_
  refine x_aload_n (i := 0) (b := 60) dX7_init_59 rfl rfl rfl ?_
  refine x_iconst (n := 0) (b := 61) dX7_init_60 (by decide) rfl ?_
  refine x_putI (b := 64) fk_X7_47 dX7_init_61 rfl rfl 13 rfl ?_
  obtain ⟨h12, e_h12, hF⟩ := lt_e hF
  refine x_hp (h2 := h12) e_h12 ?_
  refine x_aload_n (i := 0) (b := 65) dX7_init_64 rfl rfl rfl ?_
  refine x_bipush (n := 72) (b := 67) dX7_init_65 (by decide) rfl ?_
  obtain ⟨hs, hF⟩ := ckp_e hF
  refine x_newa (r := 46) (i := 0) (N := 72) (b := 69) dX7_init_67 ak_46 (by decide) rfl rfl ki_223 rfl rfl (by decide) (fun C h9 => by cases h9) hs ⟨Nat.le_of_ble_eq_true rfl, Nat.le_of_ble_eq_true rfl⟩ rfl ?_
  obtain ⟨h13, e_h13, hF⟩ := lt_e hF
  refine x_hp (h2 := h13) e_h13 ?_
  refine x_u (u2 := (1, 72)) rfl ?_
  refine x_putAF (b := 72) fk_X7_52 dX7_init_69 rfl rfl (fun _ _ _ h9 => by cases h9; rfl) rfl 14 rfl ?_
  obtain ⟨h14, e_h14, hF⟩ := lt_e hF
  refine x_hp (h2 := h14) e_h14 ?_
  refine x_aload_n (i := 0) (b := 73) dX7_init_72 rfl rfl rfl ?_
  refine x_iconst (n := 0) (b := 74) dX7_init_73 (by decide) rfl ?_
  refine x_putI (b := 77) fk_X7_56 dX7_init_74 rfl rfl 15 rfl ?_
  obtain ⟨h15, e_h15, hF⟩ := lt_e hF
  refine x_hp (h2 := h15) e_h15 ?_
  refine x_aload_n (i := 0) (b := 78) dX7_init_77 rfl rfl rfl ?_
  refine x_iconst (n := 0) (b := 79) dX7_init_78 (by decide) rfl ?_
  refine x_putI (b := 82) fk_X7_59 dX7_init_79 rfl rfl 16 rfl ?_
  obtain ⟨h16, e_h16, hF⟩ := lt_e hF
  refine x_hp (h2 := h16) e_h16 ?_
  refine x_aload_n (i := 0) (b := 83) dX7_init_82 rfl rfl rfl ?_
  refine x_iconst (n := 0) (b := 84) dX7_init_83 (by decide) rfl ?_
  refine x_putI (b := 87) fk_X7_62 dX7_init_84 rfl rfl 17 rfl ?_
  obtain ⟨h17, e_h17, hF⟩ := lt_e hF
  refine x_hp (h2 := h17) e_h17 ?_
  refine x_aload_n (i := 0) (b := 88) dX7_init_87 rfl rfl rfl ?_
  refine x_iconst (n := 1) (b := 89) dX7_init_88 (by decide) rfl ?_
  refine x_putZ (b := 92) fk_X7_65 dX7_init_89 rfl (by decide) rfl 18 rfl ?_
  obtain ⟨h18, e_h18, hF⟩ := lt_e hF
  refine x_hp (h2 := h18) e_h18 ?_
  refine x_aload_n (i := 0) (b := 93) dX7_init_92 rfl rfl rfl ?_
  obtain ⟨hs, hF⟩ := ckp_e hF
  refine x_new (r := 8) (i := 0) (N := 10) (b := 96) dX7_init_93 rfl (by decide) rfl lay_8 tyX8_ok dv_8 ki_423 ki_424 ki_122 hs ⟨Nat.le_of_ble_eq_true rfl, Nat.le_of_ble_eq_true rfl⟩ rfl ?_
  obtain ⟨h19, e_h19, hF⟩ := lt_e hF
  refine x_hp (h2 := h19) e_h19 ?_
  refine x_u (u2 := (2, 82)) rfl ?_
  refine x_dup (b := 97) dX7_init_96 rfl rfl ?_
  refine x_aload_n (i := 1) (b := 98) dX7_init_97 rfl rfl rfl ?_
  obtain ⟨v20, h21, hq, hF⟩ := bd_e hF
  refine x_callI (as := [xr 58 0]) (rest := [xr 8 0, xr 7 0]) (b := 101) (c_X8_init_u d h19 _ hq) rfl rfl dX7_init_98 cw_X7_69 rfl rfl (Nat.le_of_ble_eq_true rfl) ⟨Nat.le_of_ble_eq_true rfl, Nat.le_of_ble_eq_true rfl⟩ rfl (fun rv hh hp _ => ?_)
  refine x_u (u2 := (6, 2512)) rfl ?_
  obtain ⟨rfl, rfl⟩ := hp
  refine x_putRF (b := 104) fk_X7_72 dX7_init_101 rfl rfl (fun _ _ _ h9 => by cases h9; rfl) rfl 0 rfl ?_
  obtain ⟨h22, e_h22, hF⟩ := lt_e hF
  refine x_hp (h2 := h22) e_h22 ?_
  refine x_aload_n (i := 0) (b := 105) dX7_init_104 rfl rfl rfl ?_
  refine x_aload_n (i := 2) (b := 106) dX7_init_105 rfl rfl rfl ?_
  refine x_putR (b := 109) fk_X7_76 dX7_init_106 rfl rfl 1 rfl ?_
  obtain ⟨h23, e_h23, hF⟩ := lt_e hF
  refine x_hp (h2 := h23) e_h23 ?_
  refine x_return dX7_init_109 rfl ⟨Nat.le_of_ble_eq_true rfl, Nat.le_of_ble_eq_true rfl⟩ ?_
  cases hF
  exact ⟨rfl, rfl⟩
set_option maxHeartbeats 4000000 in
set_option maxRecDepth 100000 in
theorem u_X7_init_u (E : xE) (d : Nat) (r : Int × Hp) : ∀ n : Nat, (∀ (x2 : Int) (h : Hp), g_X7_init_u n 0 [x2] h = some r → X E mX7_init (d + 6) (6, 2512) (0, 0) 0 [some (xr 7 0), some (xr 58 0), some (xr 0 x2)] [] h (PuV r)) := by
  intro n
  induction n with
  | zero => exact fun _ _ hF => no_e (r := r) hF
  | succ n ih => exact fun x2 h hF => t_X7_init_u_0 E d (g_X7_init_u n) r  x2 h hF
theorem c_X7_init_u (d : Nat) (x2 : Int) (h : Hp) (r : Int × Hp) (hF : f_X7_init_u x2 h = some r) : Sp mX7_init (d + 6) (6, 2512) [xr 7 0, xr 58 0, xr 0 x2] h (PuV r) :=
  sp_of (by decide) rfl (Nat.le_of_ble_eq_true rfl) (ls := [some (xr 7 0), some (xr 58 0), some (xr 0 x2)]) rfl (fun E _ => (u_X7_init_u E d r FU) x2 h hF)
theorem dX2_init_0 : decode cX2_init 0 = .ok (.aload_n 0, 1) := by decide +kernel
theorem dX2_init_1 : decode cX2_init 1 = .ok (.invokespecial 3, 3) := by decide +kernel
theorem dX2_init_4 : decode cX2_init 4 = .ok (.aload_n 0, 1) := by decide +kernel
theorem dX2_init_5 : decode cX2_init 5 = .ok (.iconst (-1), 1) := by decide +kernel
theorem dX2_init_6 : decode cX2_init 6 = .ok (.putfield 9, 3) := by decide +kernel
theorem dX2_init_9 : decode cX2_init 9 = .ok (.aload_n 0, 1) := by decide +kernel
theorem dX2_init_10 : decode cX2_init 10 = .ok (.iconst (-1), 1) := by decide +kernel
theorem dX2_init_11 : decode cX2_init 11 = .ok (.putfield 15, 3) := by decide +kernel
theorem dX2_init_14 : decode cX2_init 14 = .ok (.aload_n 0, 1) := by decide +kernel
theorem dX2_init_15 : decode cX2_init 15 = .ok (.bipush 9, 2) := by decide +kernel
theorem dX2_init_17 : decode cX2_init 17 = .ok (.newarray .int, 2) := by decide +kernel
theorem dX2_init_19 : decode cX2_init 19 = .ok (.putfield 18, 3) := by decide +kernel
theorem dX2_init_22 : decode cX2_init 22 = .ok (.aload_n 0, 1) := by decide +kernel
theorem dX2_init_23 : decode cX2_init 23 = .ok (.bipush 9, 2) := by decide +kernel
theorem dX2_init_25 : decode cX2_init 25 = .ok (.newarray .int, 2) := by decide +kernel
theorem dX2_init_27 : decode cX2_init 27 = .ok (.putfield 22, 3) := by decide +kernel
theorem dX2_init_30 : decode cX2_init 30 = .ok (.aload_n 0, 1) := by decide +kernel
theorem dX2_init_31 : decode cX2_init 31 = .ok (.iconst 4, 1) := by decide +kernel
theorem dX2_init_32 : decode cX2_init 32 = .ok (.newarray .int, 2) := by decide +kernel
theorem dX2_init_34 : decode cX2_init 34 = .ok (.putfield 25, 3) := by decide +kernel
theorem dX2_init_37 : decode cX2_init 37 = .ok (.aload_n 0, 1) := by decide +kernel
theorem dX2_init_38 : decode cX2_init 38 = .ok (.bipush 9, 2) := by decide +kernel
theorem dX2_init_40 : decode cX2_init 40 = .ok (.newarray .int, 2) := by decide +kernel
theorem dX2_init_42 : decode cX2_init 42 = .ok (.putfield 28, 3) := by decide +kernel
theorem dX2_init_45 : decode cX2_init 45 = .ok (.aload_n 0, 1) := by decide +kernel
theorem dX2_init_46 : decode cX2_init 46 = .ok (.iconst 0, 1) := by decide +kernel
theorem dX2_init_47 : decode cX2_init 47 = .ok (.putfield 31, 3) := by decide +kernel
theorem dX2_init_50 : decode cX2_init 50 = .ok (.aload_n 0, 1) := by decide +kernel
theorem dX2_init_51 : decode cX2_init 51 = .ok (.iconst (-1), 1) := by decide +kernel
theorem dX2_init_52 : decode cX2_init 52 = .ok (.putfield 34, 3) := by decide +kernel
theorem dX2_init_55 : decode cX2_init 55 = .ok (.aload_n 0, 1) := by decide +kernel
theorem dX2_init_56 : decode cX2_init 56 = .ok (.sipush 270, 3) := by decide +kernel
theorem dX2_init_59 : decode cX2_init 59 = .ok (.newarray .int, 2) := by decide +kernel
theorem dX2_init_61 : decode cX2_init 61 = .ok (.putfield 37, 3) := by decide +kernel
theorem dX2_init_64 : decode cX2_init 64 = .ok (.aload_n 0, 1) := by decide +kernel
theorem dX2_init_65 : decode cX2_init 65 = .ok (.iconst (-1), 1) := by decide +kernel
theorem dX2_init_66 : decode cX2_init 66 = .ok (.putfield 40, 3) := by decide +kernel
theorem dX2_init_69 : decode cX2_init 69 = .ok (.aload_n 0, 1) := by decide +kernel
theorem dX2_init_70 : decode cX2_init 70 = .ok (.aload_n 1, 1) := by decide +kernel
theorem dX2_init_71 : decode cX2_init 71 = .ok (.putfield 43, 3) := by decide +kernel
theorem dX2_init_74 : decode cX2_init 74 = .ok (.return_, 1) := by decide +kernel
noncomputable def b_X2_init_u_0 (rec : Rk) (x1 : Int) (h : Hp) : Option (Int × Hp) :=
  lt (sI h 2 0 1 (-1)) fun h1 =>
  lt (sI h1 2 0 2 (-1)) fun h2 =>
  ckp (blk h2 29 0) <|
  lt (alA h2 29 0) fun h3 =>
  lt (sR h3 2 0 3 (some (29, 0))) fun h4 =>
  ckp (blk h4 30 0) <|
  lt (alA h4 30 0) fun h5 =>
  lt (sR h5 2 0 4 (some (30, 0))) fun h6 =>
  ckp (blk h6 31 0) <|
  lt (alA h6 31 0) fun h7 =>
  lt (sR h7 2 0 5 (some (31, 0))) fun h8 =>
  ckp (blk h8 32 0) <|
  lt (alA h8 32 0) fun h9 =>
  lt (sR h9 2 0 6 (some (32, 0))) fun h10 =>
  lt (sI h10 2 0 7 0) fun h11 =>
  lt (sI h11 2 0 8 (-1)) fun h12 =>
  ckp (blk h12 33 0) <|
  lt (alA h12 33 0) fun h13 =>
  lt (sR h13 2 0 9 (some (33, 0))) fun h14 =>
  lt (sI h14 2 0 10 (-1)) fun h15 =>
  lt (sR h15 2 0 0 (some (0, x1))) fun h16 =>
  some (0, h16)
noncomputable def g_X2_init_u (n : Nat) : Rk := Nat.rec (motive := fun _ => Rk) (fun _ _ _ => none) (fun _ rec k l h => if k = 0 then b_X2_init_u_0 rec (l.getD 0 0) h else none) n
noncomputable def f_X2_init_u (x1 : Int) (h : Hp) : Option (Int × Hp) := g_X2_init_u FU 0 [x1] h
set_option maxHeartbeats 4000000 in
set_option maxRecDepth 100000 in
theorem t_X2_init_u_0 (E : xE) (d : Nat) (rec : Rk) (r : Int × Hp) (x1 : Int) (h : Hp) (hF : b_X2_init_u_0 rec x1 h = some r) : X E mX2_init (d + 1) (5, 301) (0, 0) 0 [some (xr 2 0), some (xr 0 x1)] [] h (PuV r) := by
  unfold b_X2_init_u_0 at hF
  refine x_aload_n (i := 0) (b := 1) dX2_init_0 rfl rfl rfl ?_
  refine x_objInit (b := 4) dX2_init_1 ki_579 ki_146 ki_147 (Nat.le_of_ble_eq_true rfl) rfl ?_
  refine x_aload_n (i := 0) (b := 5) dX2_init_4 rfl rfl rfl ?_
  refine x_iconst (n := (-1)) (b := 6) dX2_init_5 (by decide) rfl ?_
  refine x_putI (b := 9) fk_X2_9 dX2_init_6 rfl rfl 1 rfl ?_
  obtain ⟨h1, e_h1, hF⟩ := lt_e hF
  refine x_hp (h2 := h1) e_h1 ?_
  refine x_aload_n (i := 0) (b := 10) dX2_init_9 rfl rfl rfl ?_
  refine x_iconst (n := (-1)) (b := 11) dX2_init_10 (by decide) rfl ?_
  refine x_putI (b := 14) fk_X2_15 dX2_init_11 rfl rfl 2 rfl ?_
  obtain ⟨h2, e_h2, hF⟩ := lt_e hF
  refine x_hp (h2 := h2) e_h2 ?_
  refine x_aload_n (i := 0) (b := 15) dX2_init_14 rfl rfl rfl ?_
  refine x_bipush (n := 9) (b := 17) dX2_init_15 (by decide) rfl ?_
  obtain ⟨hs, hF⟩ := ckp_e hF
  refine x_newa (r := 29) (i := 0) (N := 9) (b := 19) dX2_init_17 ak_29 (by decide) rfl rfl ki_223 rfl rfl (by decide) (fun C h9 => by cases h9) hs ⟨Nat.le_of_ble_eq_true rfl, Nat.le_of_ble_eq_true rfl⟩ rfl ?_
  obtain ⟨h3, e_h3, hF⟩ := lt_e hF
  refine x_hp (h2 := h3) e_h3 ?_
  refine x_u (u2 := (1, 9)) rfl ?_
  refine x_putAF (b := 22) fk_X2_18 dX2_init_19 rfl rfl (fun _ _ _ h9 => by cases h9; rfl) rfl 3 rfl ?_
  obtain ⟨h4, e_h4, hF⟩ := lt_e hF
  refine x_hp (h2 := h4) e_h4 ?_
  refine x_aload_n (i := 0) (b := 23) dX2_init_22 rfl rfl rfl ?_
  refine x_bipush (n := 9) (b := 25) dX2_init_23 (by decide) rfl ?_
  obtain ⟨hs, hF⟩ := ckp_e hF
  refine x_newa (r := 30) (i := 0) (N := 9) (b := 27) dX2_init_25 ak_30 (by decide) rfl rfl ki_223 rfl rfl (by decide) (fun C h9 => by cases h9) hs ⟨Nat.le_of_ble_eq_true rfl, Nat.le_of_ble_eq_true rfl⟩ rfl ?_
  obtain ⟨h5, e_h5, hF⟩ := lt_e hF
  refine x_hp (h2 := h5) e_h5 ?_
  refine x_u (u2 := (2, 18)) rfl ?_
  refine x_putAF (b := 30) fk_X2_22 dX2_init_27 rfl rfl (fun _ _ _ h9 => by cases h9; rfl) rfl 4 rfl ?_
  obtain ⟨h6, e_h6, hF⟩ := lt_e hF
  refine x_hp (h2 := h6) e_h6 ?_
  refine x_aload_n (i := 0) (b := 31) dX2_init_30 rfl rfl rfl ?_
  refine x_iconst (n := 4) (b := 32) dX2_init_31 (by decide) rfl ?_
  obtain ⟨hs, hF⟩ := ckp_e hF
  refine x_newa (r := 31) (i := 0) (N := 4) (b := 34) dX2_init_32 ak_31 (by decide) rfl rfl ki_223 rfl rfl (by decide) (fun C h9 => by cases h9) hs ⟨Nat.le_of_ble_eq_true rfl, Nat.le_of_ble_eq_true rfl⟩ rfl ?_
  obtain ⟨h7, e_h7, hF⟩ := lt_e hF
  refine x_hp (h2 := h7) e_h7 ?_
  refine x_u (u2 := (3, 22)) rfl ?_
  refine x_putAF (b := 37) fk_X2_25 dX2_init_34 rfl rfl (fun _ _ _ h9 => by cases h9; rfl) rfl 5 rfl ?_
  obtain ⟨h8, e_h8, hF⟩ := lt_e hF
  refine x_hp (h2 := h8) e_h8 ?_
  refine x_aload_n (i := 0) (b := 38) dX2_init_37 rfl rfl rfl ?_
  refine x_bipush (n := 9) (b := 40) dX2_init_38 (by decide) rfl ?_
  obtain ⟨hs, hF⟩ := ckp_e hF
  refine x_newa (r := 32) (i := 0) (N := 9) (b := 42) dX2_init_40 ak_32 (by decide) rfl rfl ki_223 rfl rfl (by decide) (fun C h9 => by cases h9) hs ⟨Nat.le_of_ble_eq_true rfl, Nat.le_of_ble_eq_true rfl⟩ rfl ?_
  obtain ⟨h9, e_h9, hF⟩ := lt_e hF
  refine x_hp (h2 := h9) e_h9 ?_
  refine x_u (u2 := (4, 31)) rfl ?_
  refine x_putAF (b := 45) fk_X2_28 dX2_init_42 rfl rfl (fun _ _ _ h9 => by cases h9; rfl) rfl 6 rfl ?_
  obtain ⟨h10, e_h10, hF⟩ := lt_e hF
  refine x_hp (h2 := h10) e_h10 ?_
  refine x_aload_n (i := 0) (b := 46) dX2_init_45 rfl rfl rfl ?_
  refine x_iconst (n := 0) (b := 47) dX2_init_46 (by decide) rfl ?_
  refine x_putI (b := 50) fk_X2_31 dX2_init_47 rfl rfl 7 rfl ?_
  obtain ⟨h11, e_h11, hF⟩ := lt_e hF
  refine x_hp (h2 := h11) e_h11 ?_
  refine x_aload_n (i := 0) (b := 51) dX2_init_50 rfl rfl rfl ?_
  refine x_iconst (n := (-1)) (b := 52) dX2_init_51 (by decide) rfl ?_
  refine x_putI (b := 55) fk_X2_34 dX2_init_52 rfl rfl 8 rfl ?_
  obtain ⟨h12, e_h12, hF⟩ := lt_e hF
  refine x_hp (h2 := h12) e_h12 ?_
  refine x_aload_n (i := 0) (b := 56) dX2_init_55 rfl rfl rfl ?_
  refine x_sipush (n := 270) (b := 59) dX2_init_56 (by decide) rfl ?_
  obtain ⟨hs, hF⟩ := ckp_e hF
  refine x_newa (r := 33) (i := 0) (N := 270) (b := 61) dX2_init_59 ak_33 (by decide) rfl rfl ki_223 rfl rfl (by decide) (fun C h9 => by cases h9) hs ⟨Nat.le_of_ble_eq_true rfl, Nat.le_of_ble_eq_true rfl⟩ rfl ?_
  obtain ⟨h13, e_h13, hF⟩ := lt_e hF
  refine x_hp (h2 := h13) e_h13 ?_
  refine x_u (u2 := (5, 301)) rfl ?_
  refine x_putAF (b := 64) fk_X2_37 dX2_init_61 rfl rfl (fun _ _ _ h9 => by cases h9; rfl) rfl 9 rfl ?_
  obtain ⟨h14, e_h14, hF⟩ := lt_e hF
  refine x_hp (h2 := h14) e_h14 ?_
  refine x_aload_n (i := 0) (b := 65) dX2_init_64 rfl rfl rfl ?_
  refine x_iconst (n := (-1)) (b := 66) dX2_init_65 (by decide) rfl ?_
  refine x_putI (b := 69) fk_X2_40 dX2_init_66 rfl rfl 10 rfl ?_
  obtain ⟨h15, e_h15, hF⟩ := lt_e hF
  refine x_hp (h2 := h15) e_h15 ?_
  refine x_aload_n (i := 0) (b := 70) dX2_init_69 rfl rfl rfl ?_
  refine x_aload_n (i := 1) (b := 71) dX2_init_70 rfl rfl rfl ?_
  refine x_putR (b := 74) fk_X2_43 dX2_init_71 rfl rfl 0 rfl ?_
  obtain ⟨h16, e_h16, hF⟩ := lt_e hF
  refine x_hp (h2 := h16) e_h16 ?_
  refine x_return dX2_init_74 rfl ⟨Nat.le_of_ble_eq_true rfl, Nat.le_of_ble_eq_true rfl⟩ ?_
  cases hF
  exact ⟨rfl, rfl⟩
set_option maxHeartbeats 4000000 in
set_option maxRecDepth 100000 in
theorem u_X2_init_u (E : xE) (d : Nat) (r : Int × Hp) : ∀ n : Nat, (∀ (x1 : Int) (h : Hp), g_X2_init_u n 0 [x1] h = some r → X E mX2_init (d + 1) (5, 301) (0, 0) 0 [some (xr 2 0), some (xr 0 x1)] [] h (PuV r)) := by
  intro n
  induction n with
  | zero => exact fun _ _ hF => no_e (r := r) hF
  | succ n ih => exact fun x1 h hF => t_X2_init_u_0 E d (g_X2_init_u n) r  x1 h hF
theorem c_X2_init_u (d : Nat) (x1 : Int) (h : Hp) (r : Int × Hp) (hF : f_X2_init_u x1 h = some r) : Sp mX2_init (d + 1) (5, 301) [xr 2 0, xr 0 x1] h (PuV r) :=
  sp_of (by decide) rfl (Nat.le_of_ble_eq_true rfl) (ls := [some (xr 2 0), some (xr 0 x1)]) rfl (fun E _ => (u_X2_init_u E d r FU) x1 h hF)
theorem dX6_init_0 : decode cX6_init 0 = .ok (.aload_n 0, 1) := by decide +kernel
theorem dX6_init_1 : decode cX6_init 1 = .ok (.invokespecial 3, 3) := by decide +kernel
theorem dX6_init_4 : decode cX6_init 4 = .ok (.aload_n 0, 1) := by decide +kernel
theorem dX6_init_5 : decode cX6_init 5 = .ok (.iconst 4, 1) := by decide +kernel
theorem dX6_init_6 : decode cX6_init 6 = .ok (.anewarray 9, 3) := by decide +kernel
theorem dX6_init_9 : decode cX6_init 9 = .ok (.putfield 11, 3) := by decide +kernel
theorem dX6_init_12 : decode cX6_init 12 = .ok (.aload_n 0, 1) := by decide +kernel
theorem dX6_init_13 : decode cX6_init 13 = .ok (.iconst 3, 1) := by decide +kernel
theorem dX6_init_14 : decode cX6_init 14 = .ok (.newarray .int, 2) := by decide +kernel
theorem dX6_init_16 : decode cX6_init 16 = .ok (.putfield 17, 3) := by decide +kernel
theorem dX6_init_19 : decode cX6_init 19 = .ok (.aload_n 0, 1) := by decide +kernel
theorem dX6_init_20 : decode cX6_init 20 = .ok (.iconst 3, 1) := by decide +kernel
theorem dX6_init_21 : decode cX6_init 21 = .ok (.newarray .int, 2) := by decide +kernel
theorem dX6_init_23 : decode cX6_init 23 = .ok (.putfield 21, 3) := by decide +kernel
theorem dX6_init_26 : decode cX6_init 26 = .ok (.aload_n 0, 1) := by decide +kernel
theorem dX6_init_27 : decode cX6_init 27 = .ok (.iconst 0, 1) := by decide +kernel
theorem dX6_init_28 : decode cX6_init 28 = .ok (.putfield 24, 3) := by decide +kernel
theorem dX6_init_31 : decode cX6_init 31 = .ok (.aload_n 0, 1) := by decide +kernel
theorem dX6_init_32 : decode cX6_init 32 = .ok (.iconst (-1), 1) := by decide +kernel
theorem dX6_init_33 : decode cX6_init 33 = .ok (.putfield 28, 3) := by decide +kernel
theorem dX6_init_36 : decode cX6_init 36 = .ok (.aload_n 0, 1) := by decide +kernel
theorem dX6_init_37 : decode cX6_init 37 = .ok (.aload_n 1, 1) := by decide +kernel
theorem dX6_init_38 : decode cX6_init 38 = .ok (.putfield 31, 3) := by decide +kernel
theorem dX6_init_41 : decode cX6_init 41 = .ok (.iconst 0, 1) := by decide +kernel
theorem dX6_init_42 : decode cX6_init 42 = .ok (.istore_n 2, 1) := by decide +kernel
theorem dX6_init_43 : decode cX6_init 43 = .ok (.iload_n 2, 1) := by decide +kernel
theorem dX6_init_44 : decode cX6_init 44 = .ok (.iconst 3, 1) := by decide +kernel
theorem dX6_init_45 : decode cX6_init 45 = .ok (.if_icmp .gt 22, 3) := by decide +kernel
theorem dX6_init_48 : decode cX6_init 48 = .ok (.aload_n 0, 1) := by decide +kernel
theorem dX6_init_49 : decode cX6_init 49 = .ok (.getfield 11, 3) := by decide +kernel
theorem dX6_init_52 : decode cX6_init 52 = .ok (.iload_n 2, 1) := by decide +kernel
theorem dX6_init_53 : decode cX6_init 53 = .ok (.new 9, 3) := by decide +kernel
theorem dX6_init_56 : decode cX6_init 56 = .ok (.dup, 1) := by decide +kernel
theorem dX6_init_57 : decode cX6_init 57 = .ok (.invokespecial 35, 3) := by decide +kernel
theorem dX6_init_60 : decode cX6_init 60 = .ok (.aastore, 1) := by decide +kernel
theorem dX6_init_61 : decode cX6_init 61 = .ok (.iinc 2 1, 3) := by decide +kernel
theorem dX6_init_64 : decode cX6_init 64 = .ok (.goto (-21), 3) := by decide +kernel
theorem dX6_init_67 : decode cX6_init 67 = .ok (.return_, 1) := by decide +kernel
noncomputable def b_X6_init_u_0 (rec : Rk) (h : Hp) : Option (Int × Hp) :=
  ckp (blk h 43 0) <|
  lt (alA h 43 0) fun h1 =>
  lt (sR h1 6 0 1 (some (43, 0))) fun h2 =>
  ckp (blk h2 44 0) <|
  lt (alA h2 44 0) fun h3 =>
  lt (sR h3 6 0 2 (some (44, 0))) fun h4 =>
  ckp (blk h4 45 0) <|
  lt (alA h4 45 0) fun h5 =>
  lt (sR h5 6 0 3 (some (45, 0))) fun h6 =>
  lt (sI h6 6 0 4 0) fun h7 =>
  lt (sI h7 6 0 5 (-1)) fun h8 =>
  lt (sR h8 6 0 0 (some (2, 0))) fun h9 =>
  ck (gR h9 6 0 1 = some (43, 0)) <|
  ckp (blk h9 10 23) <|
  lt (alA h9 10 23) fun h10 =>
  bd (f_X10_init_u 23 h10) fun v11 h12 =>
  ck (0 ≤ (0 : Int) ∧ (0 : Int) < 4) <|
  lt (sR h12 43 0 0 (some (10, 23))) fun h13 =>
  ck (gR h13 6 0 1 = some (43, 0)) <|
  ckp (blk h13 10 24) <|
  lt (alA h13 10 24) fun h14 =>
  bd (f_X10_init_u 24 h14) fun v15 h16 =>
  ck (0 ≤ (1 : Int) ∧ (1 : Int) < 4) <|
  lt (sR h16 43 0 1 (some (10, 24))) fun h17 =>
  ck (gR h17 6 0 1 = some (43, 0)) <|
  ckp (blk h17 10 25) <|
  lt (alA h17 10 25) fun h18 =>
  bd (f_X10_init_u 25 h18) fun v19 h20 =>
  ck (0 ≤ (2 : Int) ∧ (2 : Int) < 4) <|
  lt (sR h20 43 0 2 (some (10, 25))) fun h21 =>
  ck (gR h21 6 0 1 = some (43, 0)) <|
  ckp (blk h21 10 26) <|
  lt (alA h21 10 26) fun h22 =>
  bd (f_X10_init_u 26 h22) fun v23 h24 =>
  ck (0 ≤ (3 : Int) ∧ (3 : Int) < 4) <|
  lt (sR h24 43 0 3 (some (10, 26))) fun h25 =>
  some (0, h25)
noncomputable def g_X6_init_u (n : Nat) : Rk := Nat.rec (motive := fun _ => Rk) (fun _ _ _ => none) (fun _ rec k l h => if k = 0 then b_X6_init_u_0 rec  h else none) n
noncomputable def f_X6_init_u (h : Hp) : Option (Int × Hp) := g_X6_init_u FU 0 [] h
set_option maxHeartbeats 4000000 in
set_option maxRecDepth 100000 in
theorem t_X6_init_u_0 (E : xE) (d : Nat) (rec : Rk) (r : Int × Hp) (h : Hp) (hF : b_X6_init_u_0 rec  h = some r) : X E mX6_init (d + 2) (11, 82) (0, 0) 0 [some (xr 6 0), some (xr 2 0), none] [] h (PuV r) := by
  unfold b_X6_init_u_0 at hF
  refine x_aload_n (i := 0) (b := 1) dX6_init_0 rfl rfl rfl ?_
  refine x_objInit (b := 4) dX6_init_1 ki_628 ki_146 ki_147 (Nat.le_of_ble_eq_true rfl) rfl ?_
  refine x_aload_n (i := 0) (b := 5) dX6_init_4 rfl rfl rfl ?_
  refine x_iconst (n := 4) (b := 6) dX6_init_5 (by decide) rfl ?_
  obtain ⟨hs, hF⟩ := ckp_e hF
  refine x_newq (r := 43) (i := 0) (N := 4) (b := 9) dX6_init_6 ak_43 rfl rfl ki_629 rfl aoV (by decide) hs ⟨Nat.le_of_ble_eq_true rfl, Nat.le_of_ble_eq_true rfl⟩ rfl ?_
  obtain ⟨h1, e_h1, hF⟩ := lt_e hF
  refine x_hp (h2 := h1) e_h1 ?_
  refine x_u (u2 := (1, 4)) rfl ?_
  refine x_putAF (b := 12) fk_X6_11 dX6_init_9 rfl rfl (fun _ _ _ h9 => by cases h9; rfl) rfl 1 rfl ?_
  obtain ⟨h2, e_h2, hF⟩ := lt_e hF
  refine x_hp (h2 := h2) e_h2 ?_
  refine x_aload_n (i := 0) (b := 13) dX6_init_12 rfl rfl rfl ?_
  refine x_iconst (n := 3) (b := 14) dX6_init_13 (by decide) rfl ?_
  obtain ⟨hs, hF⟩ := ckp_e hF
  refine x_newa (r := 44) (i := 0) (N := 3) (b := 16) dX6_init_14 ak_44 (by decide) rfl rfl ki_223 rfl rfl (by decide) (fun C h9 => by cases h9) hs ⟨Nat.le_of_ble_eq_true rfl, Nat.le_of_ble_eq_true rfl⟩ rfl ?_
  obtain ⟨h3, e_h3, hF⟩ := lt_e hF
  refine x_hp (h2 := h3) e_h3 ?_
  refine x_u (u2 := (2, 7)) rfl ?_
  refine x_putAF (b := 19) fk_X6_17 dX6_init_16 rfl rfl (fun _ _ _ h9 => by cases h9; rfl) rfl 2 rfl ?_
  obtain ⟨h4, e_h4, hF⟩ := lt_e hF
  refine x_hp (h2 := h4) e_h4 ?_
  refine x_aload_n (i := 0) (b := 20) dX6_init_19 rfl rfl rfl ?_
  refine x_iconst (n := 3) (b := 21) dX6_init_20 (by decide) rfl ?_
  obtain ⟨hs, hF⟩ := ckp_e hF
  refine x_newa (r := 45) (i := 0) (N := 3) (b := 23) dX6_init_21 ak_45 (by decide) rfl rfl ki_223 rfl rfl (by decide) (fun C h9 => by cases h9) hs ⟨Nat.le_of_ble_eq_true rfl, Nat.le_of_ble_eq_true rfl⟩ rfl ?_
  obtain ⟨h5, e_h5, hF⟩ := lt_e hF
  refine x_hp (h2 := h5) e_h5 ?_
  refine x_u (u2 := (3, 10)) rfl ?_
  refine x_putAF (b := 26) fk_X6_21 dX6_init_23 rfl rfl (fun _ _ _ h9 => by cases h9; rfl) rfl 3 rfl ?_
  obtain ⟨h6, e_h6, hF⟩ := lt_e hF
  refine x_hp (h2 := h6) e_h6 ?_
  refine x_aload_n (i := 0) (b := 27) dX6_init_26 rfl rfl rfl ?_
  refine x_iconst (n := 0) (b := 28) dX6_init_27 (by decide) rfl ?_
  refine x_putI (b := 31) fk_X6_24 dX6_init_28 rfl rfl 4 rfl ?_
  obtain ⟨h7, e_h7, hF⟩ := lt_e hF
  refine x_hp (h2 := h7) e_h7 ?_
  refine x_aload_n (i := 0) (b := 32) dX6_init_31 rfl rfl rfl ?_
  refine x_iconst (n := (-1)) (b := 33) dX6_init_32 (by decide) rfl ?_
  refine x_putI (b := 36) fk_X6_28 dX6_init_33 rfl rfl 5 rfl ?_
  obtain ⟨h8, e_h8, hF⟩ := lt_e hF
  refine x_hp (h2 := h8) e_h8 ?_
  refine x_aload_n (i := 0) (b := 37) dX6_init_36 rfl rfl rfl ?_
  refine x_aload_n (i := 1) (b := 38) dX6_init_37 rfl rfl rfl ?_
  refine x_putRF (b := 41) fk_X6_31 dX6_init_38 rfl rfl (fun _ _ _ h9 => by cases h9; rfl) rfl 0 rfl ?_
  obtain ⟨h9, e_h9, hF⟩ := lt_e hF
  refine x_hp (h2 := h9) e_h9 ?_
  refine x_iconst (n := 0) (b := 42) dX6_init_41 (by decide) rfl ?_
  refine x_istore_n (i := 2) (b := 43) (ls2 := [some (xr 6 0), some (xr 2 0), some (xi 0)]) dX6_init_42 rfl (Nat.le_of_ble_eq_true rfl) rfl rfl ?_
  refine x_iload_n (i := 2) (b := 44) dX6_init_43 rfl rfl rfl ?_
  refine x_iconst (n := 3) (b := 45) dX6_init_44 (by decide) rfl ?_
  refine x_icmp_gt (tgt := 67) (b := 48) dX6_init_45 (by decide) rfl (fun hc => absurd hc (by decide)) (fun hc => ?_)
  refine x_aload_n (i := 0) (b := 49) dX6_init_48 rfl rfl rfl ?_
  obtain ⟨hs, hF⟩ := ck_e hF
  refine x_getR (v := some (43, 0)) (b := 52) fk_X6_11 dX6_init_49 rfl hs rfl ?_
  refine x_iload_n (i := 2) (b := 53) dX6_init_52 rfl rfl rfl ?_
  obtain ⟨hs, hF⟩ := ckp_e hF
  refine x_new (r := 10) (i := 23) (N := 9) (b := 56) dX6_init_53 rfl (by decide) rfl lay_10 tyX10_ok dv_10 ki_629 ki_631 ki_129 hs ⟨Nat.le_of_ble_eq_true rfl, Nat.le_of_ble_eq_true rfl⟩ rfl ?_
  obtain ⟨h10, e_h10, hF⟩ := lt_e hF
  refine x_hp (h2 := h10) e_h10 ?_
  refine x_u (u2 := (4, 19)) rfl ?_
  refine x_dup (b := 57) dX6_init_56 rfl rfl ?_
  obtain ⟨v11, h12, hq, hF⟩ := bd_e hF
  refine x_callI (as := []) (rest := [xr 10 23, xi 0, xr 43 0]) (b := 60) (c_X10_init_u d 23 h10 _ hq) rfl rfl dX6_init_57 cw_X6_35 rfl rfl (Nat.le_of_ble_eq_true rfl) ⟨Nat.le_of_ble_eq_true rfl, Nat.le_of_ble_eq_true rfl⟩ rfl (fun rv hh hp _ => ?_)
  refine x_u (u2 := (5, 28)) rfl ?_
  obtain ⟨rfl, rfl⟩ := hp
  obtain ⟨hs, hF⟩ := ck_e hF
  have hs1 := hs
  refine x_aastV (b := 61) ak_43 dX6_init_60 hs1 rfl ?_
  obtain ⟨h13, e_h13, hF⟩ := lt_e hF
  refine x_hp (h2 := h13) e_h13 ?_
  refine x_iinc (i := 2) (b := 64) (ls2 := [some (xr 6 0), some (xr 2 0), some (xi 1)]) dX6_init_61 rfl (Nat.le_of_ble_eq_true rfl) (by decide) rfl rfl ?_
  refine x_goto (tgt := 43) dX6_init_64 (by decide) ?_
  refine x_iload_n (i := 2) (b := 44) dX6_init_43 rfl rfl rfl ?_
  refine x_iconst (n := 3) (b := 45) dX6_init_44 (by decide) rfl ?_
  refine x_icmp_gt (tgt := 67) (b := 48) dX6_init_45 (by decide) rfl (fun hc => absurd hc (by decide)) (fun hc => ?_)
  refine x_aload_n (i := 0) (b := 49) dX6_init_48 rfl rfl rfl ?_
  obtain ⟨hs, hF⟩ := ck_e hF
  refine x_getR (v := some (43, 0)) (b := 52) fk_X6_11 dX6_init_49 rfl hs rfl ?_
  refine x_iload_n (i := 2) (b := 53) dX6_init_52 rfl rfl rfl ?_
  obtain ⟨hs, hF⟩ := ckp_e hF
  refine x_new (r := 10) (i := 24) (N := 9) (b := 56) dX6_init_53 rfl (by decide) rfl lay_10 tyX10_ok dv_10 ki_629 ki_631 ki_129 hs ⟨Nat.le_of_ble_eq_true rfl, Nat.le_of_ble_eq_true rfl⟩ rfl ?_
  obtain ⟨h14, e_h14, hF⟩ := lt_e hF
  refine x_hp (h2 := h14) e_h14 ?_
  refine x_u (u2 := (6, 37)) rfl ?_
  refine x_dup (b := 57) dX6_init_56 rfl rfl ?_
  obtain ⟨v15, h16, hq, hF⟩ := bd_e hF
  refine x_callI (as := []) (rest := [xr 10 24, xi 1, xr 43 0]) (b := 60) (c_X10_init_u d 24 h14 _ hq) rfl rfl dX6_init_57 cw_X6_35 rfl rfl (Nat.le_of_ble_eq_true rfl) ⟨Nat.le_of_ble_eq_true rfl, Nat.le_of_ble_eq_true rfl⟩ rfl (fun rv hh hp _ => ?_)
  refine x_u (u2 := (7, 46)) rfl ?_
  obtain ⟨rfl, rfl⟩ := hp
  obtain ⟨hs, hF⟩ := ck_e hF
  have hs1 := hs
  refine x_aastV (b := 61) ak_43 dX6_init_60 hs1 rfl ?_
  obtain ⟨h17, e_h17, hF⟩ := lt_e hF
  refine x_hp (h2 := h17) e_h17 ?_
  refine x_iinc (i := 2) (b := 64) (ls2 := [some (xr 6 0), some (xr 2 0), some (xi 2)]) dX6_init_61 rfl (Nat.le_of_ble_eq_true rfl) (by decide) rfl rfl ?_
  refine x_goto (tgt := 43) dX6_init_64 (by decide) ?_
  refine x_iload_n (i := 2) (b := 44) dX6_init_43 rfl rfl rfl ?_
  refine x_iconst (n := 3) (b := 45) dX6_init_44 (by decide) rfl ?_
  refine x_icmp_gt (tgt := 67) (b := 48) dX6_init_45 (by decide) rfl (fun hc => absurd hc (by decide)) (fun hc => ?_)
  refine x_aload_n (i := 0) (b := 49) dX6_init_48 rfl rfl rfl ?_
  obtain ⟨hs, hF⟩ := ck_e hF
  refine x_getR (v := some (43, 0)) (b := 52) fk_X6_11 dX6_init_49 rfl hs rfl ?_
  refine x_iload_n (i := 2) (b := 53) dX6_init_52 rfl rfl rfl ?_
  obtain ⟨hs, hF⟩ := ckp_e hF
  refine x_new (r := 10) (i := 25) (N := 9) (b := 56) dX6_init_53 rfl (by decide) rfl lay_10 tyX10_ok dv_10 ki_629 ki_631 ki_129 hs ⟨Nat.le_of_ble_eq_true rfl, Nat.le_of_ble_eq_true rfl⟩ rfl ?_
  obtain ⟨h18, e_h18, hF⟩ := lt_e hF
  refine x_hp (h2 := h18) e_h18 ?_
  refine x_u (u2 := (8, 55)) rfl ?_
  refine x_dup (b := 57) dX6_init_56 rfl rfl ?_
  obtain ⟨v19, h20, hq, hF⟩ := bd_e hF
  refine x_callI (as := []) (rest := [xr 10 25, xi 2, xr 43 0]) (b := 60) (c_X10_init_u d 25 h18 _ hq) rfl rfl dX6_init_57 cw_X6_35 rfl rfl (Nat.le_of_ble_eq_true rfl) ⟨Nat.le_of_ble_eq_true rfl, Nat.le_of_ble_eq_true rfl⟩ rfl (fun rv hh hp _ => ?_)
  refine x_u (u2 := (9, 64)) rfl ?_
  obtain ⟨rfl, rfl⟩ := hp
  obtain ⟨hs, hF⟩ := ck_e hF
  have hs1 := hs
  refine x_aastV (b := 61) ak_43 dX6_init_60 hs1 rfl ?_
  obtain ⟨h21, e_h21, hF⟩ := lt_e hF
  refine x_hp (h2 := h21) e_h21 ?_
  refine x_iinc (i := 2) (b := 64) (ls2 := [some (xr 6 0), some (xr 2 0), some (xi 3)]) dX6_init_61 rfl (Nat.le_of_ble_eq_true rfl) (by decide) rfl rfl ?_
  refine x_goto (tgt := 43) dX6_init_64 (by decide) ?_
  refine x_iload_n (i := 2) (b := 44) dX6_init_43 rfl rfl rfl ?_
  refine x_iconst (n := 3) (b := 45) dX6_init_44 (by decide) rfl ?_
  refine x_icmp_gt (tgt := 67) (b := 48) dX6_init_45 (by decide) rfl (fun hc => absurd hc (by decide)) (fun hc => ?_)
  refine x_aload_n (i := 0) (b := 49) dX6_init_48 rfl rfl rfl ?_
  obtain ⟨hs, hF⟩ := ck_e hF
  refine x_getR (v := some (43, 0)) (b := 52) fk_X6_11 dX6_init_49 rfl hs rfl ?_
  refine x_iload_n (i := 2) (b := 53) dX6_init_52 rfl rfl rfl ?_
  obtain ⟨hs, hF⟩ := ckp_e hF
  refine x_new (r := 10) (i := 26) (N := 9) (b := 56) dX6_init_53 rfl (by decide) rfl lay_10 tyX10_ok dv_10 ki_629 ki_631 ki_129 hs ⟨Nat.le_of_ble_eq_true rfl, Nat.le_of_ble_eq_true rfl⟩ rfl ?_
  obtain ⟨h22, e_h22, hF⟩ := lt_e hF
  refine x_hp (h2 := h22) e_h22 ?_
  refine x_u (u2 := (10, 73)) rfl ?_
  refine x_dup (b := 57) dX6_init_56 rfl rfl ?_
  obtain ⟨v23, h24, hq, hF⟩ := bd_e hF
  refine x_callI (as := []) (rest := [xr 10 26, xi 3, xr 43 0]) (b := 60) (c_X10_init_u d 26 h22 _ hq) rfl rfl dX6_init_57 cw_X6_35 rfl rfl (Nat.le_of_ble_eq_true rfl) ⟨Nat.le_of_ble_eq_true rfl, Nat.le_of_ble_eq_true rfl⟩ rfl (fun rv hh hp _ => ?_)
  refine x_u (u2 := (11, 82)) rfl ?_
  obtain ⟨rfl, rfl⟩ := hp
  obtain ⟨hs, hF⟩ := ck_e hF
  have hs1 := hs
  refine x_aastV (b := 61) ak_43 dX6_init_60 hs1 rfl ?_
  obtain ⟨h25, e_h25, hF⟩ := lt_e hF
  refine x_hp (h2 := h25) e_h25 ?_
  refine x_iinc (i := 2) (b := 64) (ls2 := [some (xr 6 0), some (xr 2 0), some (xi 4)]) dX6_init_61 rfl (Nat.le_of_ble_eq_true rfl) (by decide) rfl rfl ?_
  refine x_goto (tgt := 43) dX6_init_64 (by decide) ?_
  refine x_iload_n (i := 2) (b := 44) dX6_init_43 rfl rfl rfl ?_
  refine x_iconst (n := 3) (b := 45) dX6_init_44 (by decide) rfl ?_
  refine x_icmp_gt (tgt := 67) (b := 48) dX6_init_45 (by decide) rfl (fun hc => ?_) (fun hc => absurd hc (by decide))
  refine x_return dX6_init_67 rfl ⟨Nat.le_of_ble_eq_true rfl, Nat.le_of_ble_eq_true rfl⟩ ?_
  cases hF
  exact ⟨rfl, rfl⟩
set_option maxHeartbeats 4000000 in
set_option maxRecDepth 100000 in
theorem u_X6_init_u (E : xE) (d : Nat) (r : Int × Hp) : ∀ n : Nat, (∀ (h : Hp), g_X6_init_u n 0 [] h = some r → X E mX6_init (d + 2) (11, 82) (0, 0) 0 [some (xr 6 0), some (xr 2 0), none] [] h (PuV r)) := by
  intro n
  induction n with
  | zero => exact fun _ hF => no_e (r := r) hF
  | succ n ih => exact fun h hF => t_X6_init_u_0 E d (g_X6_init_u n) r   h hF
theorem c_X6_init_u (d : Nat) (h : Hp) (r : Int × Hp) (hF : f_X6_init_u  h = some r) : Sp mX6_init (d + 2) (11, 82) [xr 6 0, xr 2 0] h (PuV r) :=
  sp_of (by decide) rfl (Nat.le_of_ble_eq_true rfl) (ls := [some (xr 6 0), some (xr 2 0), none]) rfl (fun E _ => (u_X6_init_u E d r FU)  h hF)
theorem dX11_init_0 : decode cX11_init 0 = .ok (.aload_n 0, 1) := by decide +kernel
theorem dX11_init_1 : decode cX11_init 1 = .ok (.invokespecial 3, 3) := by decide +kernel
theorem dX11_init_4 : decode cX11_init 4 = .ok (.aload_n 0, 1) := by decide +kernel
theorem dX11_init_5 : decode cX11_init 5 = .ok (.sipush 800, 3) := by decide +kernel
theorem dX11_init_8 : decode cX11_init 8 = .ok (.newarray .byte, 2) := by decide +kernel
theorem dX11_init_10 : decode cX11_init 10 = .ok (.putfield 9, 3) := by decide +kernel
theorem dX11_init_13 : decode cX11_init 13 = .ok (.aload_n 0, 1) := by decide +kernel
theorem dX11_init_14 : decode cX11_init 14 = .ok (.iconst 0, 1) := by decide +kernel
theorem dX11_init_15 : decode cX11_init 15 = .ok (.putfield 13, 3) := by decide +kernel
theorem dX11_init_18 : decode cX11_init 18 = .ok (.aload_n 0, 1) := by decide +kernel
theorem dX11_init_19 : decode cX11_init 19 = .ok (.new 17, 3) := by decide +kernel
theorem dX11_init_22 : decode cX11_init 22 = .ok (.dup, 1) := by decide +kernel
theorem dX11_init_23 : decode cX11_init 23 = .ok (.invokespecial 19, 3) := by decide +kernel
theorem dX11_init_26 : decode cX11_init 26 = .ok (.putfield 20, 3) := by decide +kernel
theorem dX11_init_29 : decode cX11_init 29 = .ok (.aload_n 0, 1) := by decide +kernel
theorem dX11_init_30 : decode cX11_init 30 = .ok (.new 17, 3) := by decide +kernel
theorem dX11_init_33 : decode cX11_init 33 = .ok (.dup, 1) := by decide +kernel
theorem dX11_init_34 : decode cX11_init 34 = .ok (.invokespecial 19, 3) := by decide +kernel
theorem dX11_init_37 : decode cX11_init 37 = .ok (.putfield 24, 3) := by decide +kernel
theorem dX11_init_40 : decode cX11_init 40 = .ok (.aload_n 0, 1) := by decide +kernel
theorem dX11_init_41 : decode cX11_init 41 = .ok (.new 27, 3) := by decide +kernel
theorem dX11_init_44 : decode cX11_init 44 = .ok (.dup, 1) := by decide +kernel
theorem dX11_init_45 : decode cX11_init 45 = .ok (.aload_n 0, 1) := by decide +kernel
theorem dX11_init_46 : decode cX11_init 46 = .ok (.getfield 9, 3) := by decide +kernel
theorem dX11_init_49 : decode cX11_init 49 = .ok (.aload_n 0, 1) := by decide +kernel
theorem dX11_init_50 : decode cX11_init 50 = .ok (.getfield 24, 3) := by decide +kernel
theorem dX11_init_53 : decode cX11_init 53 = .ok (.invokespecial 29, 3) := by decide +kernel
theorem dX11_init_56 : decode cX11_init 56 = .ok (.putfield 32, 3) := by decide +kernel
theorem dX11_init_59 : decode cX11_init 59 = .ok (.aload_n 0, 1) := by decide +kernel
theorem dX11_init_60 : decode cX11_init 60 = .ok (.new 36, 3) := by decide +kernel
theorem dX11_init_63 : decode cX11_init 63 = .ok (.dup, 1) := by decide +kernel
theorem dX11_init_64 : decode cX11_init 64 = .ok (.aload_n 0, 1) := by decide +kernel
theorem dX11_init_65 : decode cX11_init 65 = .ok (.getfield 20, 3) := by decide +kernel
theorem dX11_init_68 : decode cX11_init 68 = .ok (.invokespecial 38, 3) := by decide +kernel
theorem dX11_init_71 : decode cX11_init 71 = .ok (.putfield 41, 3) := by decide +kernel
theorem dX11_init_74 : decode cX11_init 74 = .ok (.aload_n 0, 1) := by decide +kernel
theorem dX11_init_75 : decode cX11_init 75 = .ok (.new 45, 3) := by decide +kernel
theorem dX11_init_78 : decode cX11_init 78 = .ok (.dup, 1) := by decide +kernel
theorem dX11_init_79 : decode cX11_init 79 = .ok (.aload_n 0, 1) := by decide +kernel
theorem dX11_init_80 : decode cX11_init 80 = .ok (.getfield 41, 3) := by decide +kernel
theorem dX11_init_83 : decode cX11_init 83 = .ok (.invokespecial 47, 3) := by decide +kernel
theorem dX11_init_86 : decode cX11_init 86 = .ok (.putfield 50, 3) := by decide +kernel
theorem dX11_init_89 : decode cX11_init 89 = .ok (.aload_n 0, 1) := by decide +kernel
theorem dX11_init_90 : decode cX11_init 90 = .ok (.new 54, 3) := by decide +kernel
theorem dX11_init_93 : decode cX11_init 93 = .ok (.dup, 1) := by decide +kernel
theorem dX11_init_94 : decode cX11_init 94 = .ok (.invokespecial 56, 3) := by decide +kernel
theorem dX11_init_97 : decode cX11_init 97 = .ok (.putfield 57, 3) := by decide +kernel
theorem dX11_init_100 : decode cX11_init 100 = .ok (.aload_n 0, 1) := by decide +kernel
theorem dX11_init_101 : decode cX11_init 101 = .ok (.new 61, 3) := by decide +kernel
theorem dX11_init_104 : decode cX11_init 104 = .ok (.dup, 1) := by decide +kernel
theorem dX11_init_105 : decode cX11_init 105 = .ok (.invokespecial 63, 3) := by decide +kernel
theorem dX11_init_108 : decode cX11_init 108 = .ok (.putfield 64, 3) := by decide +kernel
theorem dX11_init_111 : decode cX11_init 111 = .ok (.aload_n 0, 1) := by decide +kernel
theorem dX11_init_112 : decode cX11_init 112 = .ok (.bipush 20, 2) := by decide +kernel
theorem dX11_init_114 : decode cX11_init 114 = .ok (.anewarray 54, 3) := by decide +kernel
theorem dX11_init_117 : decode cX11_init 117 = .ok (.putfield 68, 3) := by decide +kernel
theorem dX11_init_120 : decode cX11_init 120 = .ok (.aload_n 0, 1) := by decide +kernel
theorem dX11_init_121 : decode cX11_init 121 = .ok (.iconst 0, 1) := by decide +kernel
theorem dX11_init_122 : decode cX11_init 122 = .ok (.putfield 72, 3) := by decide +kernel
theorem dX11_init_125 : decode cX11_init 125 = .ok (.aload_n 0, 1) := by decide +kernel
theorem dX11_init_126 : decode cX11_init 126 = .ok (.new 54, 3) := by decide +kernel
theorem dX11_init_129 : decode cX11_init 129 = .ok (.dup, 1) := by decide +kernel
theorem dX11_init_130 : decode cX11_init 130 = .ok (.invokespecial 56, 3) := by decide +kernel
theorem dX11_init_133 : decode cX11_init 133 = .ok (.putfield 75, 3) := by decide +kernel
theorem dX11_init_136 : decode cX11_init 136 = .ok (.aload_n 0, 1) := by decide +kernel
theorem dX11_init_137 : decode cX11_init 137 = .ok (.new 61, 3) := by decide +kernel
theorem dX11_init_140 : decode cX11_init 140 = .ok (.dup, 1) := by decide +kernel
theorem dX11_init_141 : decode cX11_init 141 = .ok (.invokespecial 63, 3) := by decide +kernel
theorem dX11_init_144 : decode cX11_init 144 = .ok (.putfield 78, 3) := by decide +kernel
theorem dX11_init_147 : decode cX11_init 147 = .ok (.aload_n 0, 1) := by decide +kernel
theorem dX11_init_148 : decode cX11_init 148 = .ok (.iconst 0, 1) := by decide +kernel
theorem dX11_init_149 : decode cX11_init 149 = .ok (.putfield 81, 3) := by decide +kernel
theorem dX11_init_152 : decode cX11_init 152 = .ok (.aload_n 0, 1) := by decide +kernel
theorem dX11_init_153 : decode cX11_init 153 = .ok (.new 85, 3) := by decide +kernel
theorem dX11_init_156 : decode cX11_init 156 = .ok (.dup, 1) := by decide +kernel
theorem dX11_init_157 : decode cX11_init 157 = .ok (.invokespecial 87, 3) := by decide +kernel
theorem dX11_init_160 : decode cX11_init 160 = .ok (.putfield 88, 3) := by decide +kernel
theorem dX11_init_163 : decode cX11_init 163 = .ok (.aload_n 0, 1) := by decide +kernel
theorem dX11_init_164 : decode cX11_init 164 = .ok (.new 54, 3) := by decide +kernel
theorem dX11_init_167 : decode cX11_init 167 = .ok (.dup, 1) := by decide +kernel
theorem dX11_init_168 : decode cX11_init 168 = .ok (.invokespecial 56, 3) := by decide +kernel
theorem dX11_init_171 : decode cX11_init 171 = .ok (.putfield 92, 3) := by decide +kernel
theorem dX11_init_174 : decode cX11_init 174 = .ok (.aload_n 0, 1) := by decide +kernel
theorem dX11_init_175 : decode cX11_init 175 = .ok (.iconst (-1), 1) := by decide +kernel
theorem dX11_init_176 : decode cX11_init 176 = .ok (.putfield 95, 3) := by decide +kernel
theorem dX11_init_179 : decode cX11_init 179 = .ok (.iconst 0, 1) := by decide +kernel
theorem dX11_init_180 : decode cX11_init 180 = .ok (.istore_n 1, 1) := by decide +kernel
theorem dX11_init_181 : decode cX11_init 181 = .ok (.iload_n 1, 1) := by decide +kernel
theorem dX11_init_182 : decode cX11_init 182 = .ok (.bipush 20, 2) := by decide +kernel
theorem dX11_init_184 : decode cX11_init 184 = .ok (.if_icmp .ge 22, 3) := by decide +kernel
theorem dX11_init_187 : decode cX11_init 187 = .ok (.aload_n 0, 1) := by decide +kernel
theorem dX11_init_188 : decode cX11_init 188 = .ok (.getfield 68, 3) := by decide +kernel
theorem dX11_init_191 : decode cX11_init 191 = .ok (.iload_n 1, 1) := by decide +kernel
theorem dX11_init_192 : decode cX11_init 192 = .ok (.new 54, 3) := by decide +kernel
theorem dX11_init_195 : decode cX11_init 195 = .ok (.dup, 1) := by decide +kernel
theorem dX11_init_196 : decode cX11_init 196 = .ok (.invokespecial 56, 3) := by decide +kernel
theorem dX11_init_199 : decode cX11_init 199 = .ok (.aastore, 1) := by decide +kernel
theorem dX11_init_200 : decode cX11_init 200 = .ok (.iinc 1 1, 3) := by decide +kernel
theorem dX11_init_203 : decode cX11_init 203 = .ok (.goto (-22), 3) := by decide +kernel
theorem dX11_init_206 : decode cX11_init 206 = .ok (.aload_n 0, 1) := by decide +kernel
theorem dX11_init_207 : decode cX11_init 207 = .ok (.getfield 57, 3) := by decide +kernel
theorem dX11_init_210 : decode cX11_init 210 = .ok (.aload_n 0, 1) := by decide +kernel
theorem dX11_init_211 : decode cX11_init 211 = .ok (.getfield 20, 3) := by decide +kernel
theorem dX11_init_214 : decode cX11_init 214 = .ok (.invokevirtual 98, 3) := by decide +kernel
theorem dX11_init_217 : decode cX11_init 217 = .ok (.return_, 1) := by decide +kernel
noncomputable def b_X11_init_u_0 (rec : Rk) (h : Hp) : Option (Int × Hp) :=
  ckp (blk h 58 0) <|
  lt (alA h 58 0) fun h1 =>
  lt (sR h1 11 0 0 (some (58, 0))) fun h2 =>
  lt (sI h2 11 0 1 0) fun h3 =>
  ckp (blk h3 0 0) <|
  lt (alA h3 0 0) fun h4 =>
  bd (f_X0_init_u 0 h4) fun v5 h6 =>
  lt (sR h6 11 0 2 (some (0, 0))) fun h7 =>
  ckp (blk h7 0 1) <|
  lt (alA h7 0 1) fun h8 =>
  bd (f_X0_init_u 1 h8) fun v9 h10 =>
  lt (sR h10 11 0 3 (some (0, 1))) fun h11 =>
  ckp (blk h11 7 0) <|
  lt (alA h11 7 0) fun h12 =>
  ck (gR h12 11 0 0 = some (58, 0)) <|
  rf (gR h12 11 0 3) 0 fun j13 =>
  bd (f_X7_init_u j13 h12) fun v14 h15 =>
  lt (sR h15 11 0 4 (some (7, 0))) fun h16 =>
  ckp (blk h16 2 0) <|
  lt (alA h16 2 0) fun h17 =>
  rf (gR h17 11 0 2) 0 fun j18 =>
  bd (f_X2_init_u j18 h17) fun v19 h20 =>
  lt (sR h20 11 0 5 (some (2, 0))) fun h21 =>
  ckp (blk h21 6 0) <|
  lt (alA h21 6 0) fun h22 =>
  ck (gR h22 11 0 5 = some (2, 0)) <|
  bd (f_X6_init_u h22) fun v23 h24 =>
  lt (sR h24 11 0 6 (some (6, 0))) fun h25 =>
  ckp (blk h25 10 0) <|
  lt (alA h25 10 0) fun h26 =>
  bd (f_X10_init_u 0 h26) fun v27 h28 =>
  lt (sR h28 11 0 7 (some (10, 0))) fun h29 =>
  ckp (blk h29 3 0) <|
  lt (alA h29 3 0) fun h30 =>
  bd (f_X3_init_u 0 h30) fun v31 h32 =>
  lt (sR h32 11 0 8 (some (3, 0))) fun h33 =>
  ckp (blk h33 59 0) <|
  lt (alA h33 59 0) fun h34 =>
  lt (sR h34 11 0 9 (some (59, 0))) fun h35 =>
  lt (sI h35 11 0 10 0) fun h36 =>
  ckp (blk h36 10 21) <|
  lt (alA h36 10 21) fun h37 =>
  bd (f_X10_init_u 21 h37) fun v38 h39 =>
  lt (sR h39 11 0 11 (some (10, 21))) fun h40 =>
  ckp (blk h40 3 1) <|
  lt (alA h40 3 1) fun h41 =>
  bd (f_X3_init_u 1 h41) fun v42 h43 =>
  lt (sR h43 11 0 12 (some (3, 1))) fun h44 =>
  lt (sI h44 11 0 13 0) fun h45 =>
  ckp (blk h45 5 0) <|
  lt (alA h45 5 0) fun h46 =>
  bd (f_X5_init_u h46) fun v47 h48 =>
  lt (sR h48 11 0 14 (some (5, 0))) fun h49 =>
  ckp (blk h49 10 22) <|
  lt (alA h49 10 22) fun h50 =>
  bd (f_X10_init_u 22 h50) fun v51 h52 =>
  lt (sR h52 11 0 15 (some (10, 22))) fun h53 =>
  lt (sI h53 11 0 16 (-1)) fun h54 =>
  ck (gR h54 11 0 9 = some (59, 0)) <|
  ckp (blk h54 10 1) <|
  lt (alA h54 10 1) fun h55 =>
  bd (f_X10_init_u 1 h55) fun v56 h57 =>
  ck (0 ≤ (0 : Int) ∧ (0 : Int) < 20) <|
  lt (sR h57 59 0 0 (some (10, 1))) fun h58 =>
  ck (gR h58 11 0 9 = some (59, 0)) <|
  ckp (blk h58 10 2) <|
  lt (alA h58 10 2) fun h59 =>
  bd (f_X10_init_u 2 h59) fun v60 h61 =>
  ck (0 ≤ (1 : Int) ∧ (1 : Int) < 20) <|
  lt (sR h61 59 0 1 (some (10, 2))) fun h62 =>
  ck (gR h62 11 0 9 = some (59, 0)) <|
  ckp (blk h62 10 3) <|
  lt (alA h62 10 3) fun h63 =>
  bd (f_X10_init_u 3 h63) fun v64 h65 =>
  ck (0 ≤ (2 : Int) ∧ (2 : Int) < 20) <|
  lt (sR h65 59 0 2 (some (10, 3))) fun h66 =>
  ck (gR h66 11 0 9 = some (59, 0)) <|
  ckp (blk h66 10 4) <|
  lt (alA h66 10 4) fun h67 =>
  bd (f_X10_init_u 4 h67) fun v68 h69 =>
  ck (0 ≤ (3 : Int) ∧ (3 : Int) < 20) <|
  lt (sR h69 59 0 3 (some (10, 4))) fun h70 =>
  ck (gR h70 11 0 9 = some (59, 0)) <|
  ckp (blk h70 10 5) <|
  lt (alA h70 10 5) fun h71 =>
  bd (f_X10_init_u 5 h71) fun v72 h73 =>
  ck (0 ≤ (4 : Int) ∧ (4 : Int) < 20) <|
  lt (sR h73 59 0 4 (some (10, 5))) fun h74 =>
  ck (gR h74 11 0 9 = some (59, 0)) <|
  ckp (blk h74 10 6) <|
  lt (alA h74 10 6) fun h75 =>
  bd (f_X10_init_u 6 h75) fun v76 h77 =>
  ck (0 ≤ (5 : Int) ∧ (5 : Int) < 20) <|
  lt (sR h77 59 0 5 (some (10, 6))) fun h78 =>
  ck (gR h78 11 0 9 = some (59, 0)) <|
  ckp (blk h78 10 7) <|
  lt (alA h78 10 7) fun h79 =>
  bd (f_X10_init_u 7 h79) fun v80 h81 =>
  ck (0 ≤ (6 : Int) ∧ (6 : Int) < 20) <|
  lt (sR h81 59 0 6 (some (10, 7))) fun h82 =>
  ck (gR h82 11 0 9 = some (59, 0)) <|
  ckp (blk h82 10 8) <|
  lt (alA h82 10 8) fun h83 =>
  bd (f_X10_init_u 8 h83) fun v84 h85 =>
  ck (0 ≤ (7 : Int) ∧ (7 : Int) < 20) <|
  lt (sR h85 59 0 7 (some (10, 8))) fun h86 =>
  ck (gR h86 11 0 9 = some (59, 0)) <|
  ckp (blk h86 10 9) <|
  lt (alA h86 10 9) fun h87 =>
  bd (f_X10_init_u 9 h87) fun v88 h89 =>
  ck (0 ≤ (8 : Int) ∧ (8 : Int) < 20) <|
  lt (sR h89 59 0 8 (some (10, 9))) fun h90 =>
  ck (gR h90 11 0 9 = some (59, 0)) <|
  ckp (blk h90 10 10) <|
  lt (alA h90 10 10) fun h91 =>
  bd (f_X10_init_u 10 h91) fun v92 h93 =>
  ck (0 ≤ (9 : Int) ∧ (9 : Int) < 20) <|
  lt (sR h93 59 0 9 (some (10, 10))) fun h94 =>
  ck (gR h94 11 0 9 = some (59, 0)) <|
  ckp (blk h94 10 11) <|
  lt (alA h94 10 11) fun h95 =>
  bd (f_X10_init_u 11 h95) fun v96 h97 =>
  ck (0 ≤ (10 : Int) ∧ (10 : Int) < 20) <|
  lt (sR h97 59 0 10 (some (10, 11))) fun h98 =>
  ck (gR h98 11 0 9 = some (59, 0)) <|
  ckp (blk h98 10 12) <|
  lt (alA h98 10 12) fun h99 =>
  bd (f_X10_init_u 12 h99) fun v100 h101 =>
  ck (0 ≤ (11 : Int) ∧ (11 : Int) < 20) <|
  lt (sR h101 59 0 11 (some (10, 12))) fun h102 =>
  ck (gR h102 11 0 9 = some (59, 0)) <|
  ckp (blk h102 10 13) <|
  lt (alA h102 10 13) fun h103 =>
  bd (f_X10_init_u 13 h103) fun v104 h105 =>
  ck (0 ≤ (12 : Int) ∧ (12 : Int) < 20) <|
  lt (sR h105 59 0 12 (some (10, 13))) fun h106 =>
  ck (gR h106 11 0 9 = some (59, 0)) <|
  ckp (blk h106 10 14) <|
  lt (alA h106 10 14) fun h107 =>
  bd (f_X10_init_u 14 h107) fun v108 h109 =>
  ck (0 ≤ (13 : Int) ∧ (13 : Int) < 20) <|
  lt (sR h109 59 0 13 (some (10, 14))) fun h110 =>
  ck (gR h110 11 0 9 = some (59, 0)) <|
  ckp (blk h110 10 15) <|
  lt (alA h110 10 15) fun h111 =>
  bd (f_X10_init_u 15 h111) fun v112 h113 =>
  ck (0 ≤ (14 : Int) ∧ (14 : Int) < 20) <|
  lt (sR h113 59 0 14 (some (10, 15))) fun h114 =>
  ck (gR h114 11 0 9 = some (59, 0)) <|
  ckp (blk h114 10 16) <|
  lt (alA h114 10 16) fun h115 =>
  bd (f_X10_init_u 16 h115) fun v116 h117 =>
  ck (0 ≤ (15 : Int) ∧ (15 : Int) < 20) <|
  lt (sR h117 59 0 15 (some (10, 16))) fun h118 =>
  ck (gR h118 11 0 9 = some (59, 0)) <|
  ckp (blk h118 10 17) <|
  lt (alA h118 10 17) fun h119 =>
  bd (f_X10_init_u 17 h119) fun v120 h121 =>
  ck (0 ≤ (16 : Int) ∧ (16 : Int) < 20) <|
  lt (sR h121 59 0 16 (some (10, 17))) fun h122 =>
  ck (gR h122 11 0 9 = some (59, 0)) <|
  ckp (blk h122 10 18) <|
  lt (alA h122 10 18) fun h123 =>
  bd (f_X10_init_u 18 h123) fun v124 h125 =>
  ck (0 ≤ (17 : Int) ∧ (17 : Int) < 20) <|
  lt (sR h125 59 0 17 (some (10, 18))) fun h126 =>
  ck (gR h126 11 0 9 = some (59, 0)) <|
  ckp (blk h126 10 19) <|
  lt (alA h126 10 19) fun h127 =>
  bd (f_X10_init_u 19 h127) fun v128 h129 =>
  ck (0 ≤ (18 : Int) ∧ (18 : Int) < 20) <|
  lt (sR h129 59 0 18 (some (10, 19))) fun h130 =>
  ck (gR h130 11 0 9 = some (59, 0)) <|
  ckp (blk h130 10 20) <|
  lt (alA h130 10 20) fun h131 =>
  bd (f_X10_init_u 20 h131) fun v132 h133 =>
  ck (0 ≤ (19 : Int) ∧ (19 : Int) < 20) <|
  lt (sR h133 59 0 19 (some (10, 20))) fun h134 =>
  ck (gR h134 11 0 7 = some (10, 0)) <|
  rf (gR h134 11 0 2) 0 fun j135 =>
  bd (f_X10_begin_u 0 j135 h134) fun v136 h137 =>
  some (0, h137)
noncomputable def g_X11_init_u (n : Nat) : Rk := Nat.rec (motive := fun _ => Rk) (fun _ _ _ => none) (fun _ rec k l h => if k = 0 then b_X11_init_u_0 rec  h else none) n
noncomputable def f_X11_init_u (h : Hp) : Option (Int × Hp) := g_X11_init_u FU 0 [] h
set_option maxHeartbeats 4000000 in
set_option maxRecDepth 100000 in
theorem t_X11_init_u_0 (E : xE) (d : Nat) (rec : Rk) (r : Int × Hp) (h : Hp) (hF : b_X11_init_u_0 rec  h = some r) : X E mX11_init (d + 7) (144, 6403) (0, 0) 0 [some (xr 11 0), none] [] h (PuV r) := by
  unfold b_X11_init_u_0 at hF
  refine x_aload_n (i := 0) (b := 1) dX11_init_0 rfl rfl rfl ?_
  refine x_objInit (b := 4) dX11_init_1 ki_145 ki_146 ki_147 (Nat.le_of_ble_eq_true rfl) rfl ?_
  refine x_aload_n (i := 0) (b := 5) dX11_init_4 rfl rfl rfl ?_
  refine x_sipush (n := 800) (b := 8) dX11_init_5 (by decide) rfl ?_
  obtain ⟨hs, hF⟩ := ckp_e hF
  refine x_newa (r := 58) (i := 0) (N := 800) (b := 10) dX11_init_8 ak_58 (by decide) rfl rfl ki_222 rfl rfl (by decide) (fun C h9 => by cases h9) hs ⟨Nat.le_of_ble_eq_true rfl, Nat.le_of_ble_eq_true rfl⟩ rfl ?_
  obtain ⟨h1, e_h1, hF⟩ := lt_e hF
  refine x_hp (h2 := h1) e_h1 ?_
  refine x_u (u2 := (1, 800)) rfl ?_
  refine x_putAF (b := 13) fk_X11_9 dX11_init_10 rfl rfl (fun _ _ _ h9 => by cases h9; rfl) rfl 0 rfl ?_
  obtain ⟨h2, e_h2, hF⟩ := lt_e hF
  refine x_hp (h2 := h2) e_h2 ?_
  refine x_aload_n (i := 0) (b := 14) dX11_init_13 rfl rfl rfl ?_
  refine x_iconst (n := 0) (b := 15) dX11_init_14 (by decide) rfl ?_
  refine x_putI (b := 18) fk_X11_13 dX11_init_15 rfl rfl 1 rfl ?_
  obtain ⟨h3, e_h3, hF⟩ := lt_e hF
  refine x_hp (h2 := h3) e_h3 ?_
  refine x_aload_n (i := 0) (b := 19) dX11_init_18 rfl rfl rfl ?_
  obtain ⟨hs, hF⟩ := ckp_e hF
  refine x_new (r := 0) (i := 0) (N := 15) (b := 22) dX11_init_19 rfl (by decide) rfl lay_0 tyX0_ok dv_0 ki_148 ki_149 ki_117 hs ⟨Nat.le_of_ble_eq_true rfl, Nat.le_of_ble_eq_true rfl⟩ rfl ?_
  obtain ⟨h4, e_h4, hF⟩ := lt_e hF
  refine x_hp (h2 := h4) e_h4 ?_
  refine x_u (u2 := (2, 815)) rfl ?_
  refine x_dup (b := 23) dX11_init_22 rfl rfl ?_
  obtain ⟨v5, h6, hq, hF⟩ := bd_e hF
  refine x_callI (as := []) (rest := [xr 0 0, xr 11 0]) (b := 26) (c_X0_init_u (d + 1) 0 h4 _ hq) rfl rfl dX11_init_23 cw_X11_19 rfl rfl (Nat.le_of_ble_eq_true rfl) ⟨Nat.le_of_ble_eq_true rfl, Nat.le_of_ble_eq_true rfl⟩ rfl (fun rv hh hp _ => ?_)
  refine x_u (u2 := (28, 1547)) rfl ?_
  obtain ⟨rfl, rfl⟩ := hp
  refine x_putR (b := 29) fk_X11_20 dX11_init_26 rfl rfl 2 rfl ?_
  obtain ⟨h7, e_h7, hF⟩ := lt_e hF
  refine x_hp (h2 := h7) e_h7 ?_
  refine x_aload_n (i := 0) (b := 30) dX11_init_29 rfl rfl rfl ?_
  obtain ⟨hs, hF⟩ := ckp_e hF
  refine x_new (r := 0) (i := 1) (N := 15) (b := 33) dX11_init_30 rfl (by decide) rfl lay_0 tyX0_ok dv_0 ki_148 ki_149 ki_117 hs ⟨Nat.le_of_ble_eq_true rfl, Nat.le_of_ble_eq_true rfl⟩ rfl ?_
  obtain ⟨h8, e_h8, hF⟩ := lt_e hF
  refine x_hp (h2 := h8) e_h8 ?_
  refine x_u (u2 := (29, 1562)) rfl ?_
  refine x_dup (b := 34) dX11_init_33 rfl rfl ?_
  obtain ⟨v9, h10, hq, hF⟩ := bd_e hF
  refine x_callI (as := []) (rest := [xr 0 1, xr 11 0]) (b := 37) (c_X0_init_u (d + 1) 1 h8 _ hq) rfl rfl dX11_init_34 cw_X11_19 rfl rfl (Nat.le_of_ble_eq_true rfl) ⟨Nat.le_of_ble_eq_true rfl, Nat.le_of_ble_eq_true rfl⟩ rfl (fun rv hh hp _ => ?_)
  refine x_u (u2 := (55, 2294)) rfl ?_
  obtain ⟨rfl, rfl⟩ := hp
  refine x_putR (b := 40) fk_X11_24 dX11_init_37 rfl rfl 3 rfl ?_
  obtain ⟨h11, e_h11, hF⟩ := lt_e hF
  refine x_hp (h2 := h11) e_h11 ?_
  refine x_aload_n (i := 0) (b := 41) dX11_init_40 rfl rfl rfl ?_
  obtain ⟨hs, hF⟩ := ckp_e hF
  refine x_new (r := 7) (i := 0) (N := 19) (b := 44) dX11_init_41 rfl (by decide) rfl lay_7 tyX7_ok dv_7 ki_417 ki_418 ki_121 hs ⟨Nat.le_of_ble_eq_true rfl, Nat.le_of_ble_eq_true rfl⟩ rfl ?_
  obtain ⟨h12, e_h12, hF⟩ := lt_e hF
  refine x_hp (h2 := h12) e_h12 ?_
  refine x_u (u2 := (56, 2313)) rfl ?_
  refine x_dup (b := 45) dX11_init_44 rfl rfl ?_
  refine x_aload_n (i := 0) (b := 46) dX11_init_45 rfl rfl rfl ?_
  obtain ⟨hs, hF⟩ := ck_e hF
  refine x_getR (v := some (58, 0)) (b := 49) fk_X11_9 dX11_init_46 rfl hs rfl ?_
  refine x_aload_n (i := 0) (b := 50) dX11_init_49 rfl rfl rfl ?_
  obtain ⟨j13, e_j13, hF⟩ := rf_e hF
  refine x_getR (v := some (0, j13)) (b := 53) fk_X11_24 dX11_init_50 rfl e_j13 rfl ?_
  obtain ⟨v14, h15, hq, hF⟩ := bd_e hF
  refine x_callI (as := [xr 58 0, xr 0 j13]) (rest := [xr 7 0, xr 11 0]) (b := 56) (c_X7_init_u d j13 h12 _ hq) rfl rfl dX11_init_53 cw_X11_29 rfl rfl (Nat.le_of_ble_eq_true rfl) ⟨Nat.le_of_ble_eq_true rfl, Nat.le_of_ble_eq_true rfl⟩ rfl (fun rv hh hp _ => ?_)
  refine x_u (u2 := (62, 4825)) rfl ?_
  obtain ⟨rfl, rfl⟩ := hp
  refine x_putRF (b := 59) fk_X11_32 dX11_init_56 rfl rfl (fun _ _ _ h9 => by cases h9; rfl) rfl 4 rfl ?_
  obtain ⟨h16, e_h16, hF⟩ := lt_e hF
  refine x_hp (h2 := h16) e_h16 ?_
  refine x_aload_n (i := 0) (b := 60) dX11_init_59 rfl rfl rfl ?_
  obtain ⟨hs, hF⟩ := ckp_e hF
  refine x_new (r := 2) (i := 0) (N := 11) (b := 63) dX11_init_60 rfl (by decide) rfl lay_2 tyX2_ok dv_2 ki_574 ki_575 ki_127 hs ⟨Nat.le_of_ble_eq_true rfl, Nat.le_of_ble_eq_true rfl⟩ rfl ?_
  obtain ⟨h17, e_h17, hF⟩ := lt_e hF
  refine x_hp (h2 := h17) e_h17 ?_
  refine x_u (u2 := (63, 4836)) rfl ?_
  refine x_dup (b := 64) dX11_init_63 rfl rfl ?_
  refine x_aload_n (i := 0) (b := 65) dX11_init_64 rfl rfl rfl ?_
  obtain ⟨j18, e_j18, hF⟩ := rf_e hF
  refine x_getR (v := some (0, j18)) (b := 68) fk_X11_20 dX11_init_65 rfl e_j18 rfl ?_
  obtain ⟨v19, h20, hq, hF⟩ := bd_e hF
  refine x_callI (as := [xr 0 j18]) (rest := [xr 2 0, xr 11 0]) (b := 71) (c_X2_init_u (d + 5) j18 h17 _ hq) rfl rfl dX11_init_68 cw_X11_38 rfl rfl (Nat.le_of_ble_eq_true rfl) ⟨Nat.le_of_ble_eq_true rfl, Nat.le_of_ble_eq_true rfl⟩ rfl (fun rv hh hp _ => ?_)
  refine x_u (u2 := (68, 5137)) rfl ?_
  obtain ⟨rfl, rfl⟩ := hp
  refine x_putRF (b := 74) fk_X11_41 dX11_init_71 rfl rfl (fun _ _ _ h9 => by cases h9; rfl) rfl 5 rfl ?_
  obtain ⟨h21, e_h21, hF⟩ := lt_e hF
  refine x_hp (h2 := h21) e_h21 ?_
  refine x_aload_n (i := 0) (b := 75) dX11_init_74 rfl rfl rfl ?_
  obtain ⟨hs, hF⟩ := ckp_e hF
  refine x_new (r := 6) (i := 0) (N := 6) (b := 78) dX11_init_75 rfl (by decide) rfl lay_6 tyX6_ok dv_6 ki_623 ki_624 ki_128 hs ⟨Nat.le_of_ble_eq_true rfl, Nat.le_of_ble_eq_true rfl⟩ rfl ?_
  obtain ⟨h22, e_h22, hF⟩ := lt_e hF
  refine x_hp (h2 := h22) e_h22 ?_
  refine x_u (u2 := (69, 5143)) rfl ?_
  refine x_dup (b := 79) dX11_init_78 rfl rfl ?_
  refine x_aload_n (i := 0) (b := 80) dX11_init_79 rfl rfl rfl ?_
  obtain ⟨hs, hF⟩ := ck_e hF
  refine x_getR (v := some (2, 0)) (b := 83) fk_X11_41 dX11_init_80 rfl hs rfl ?_
  obtain ⟨v23, h24, hq, hF⟩ := bd_e hF
  refine x_callI (as := [xr 2 0]) (rest := [xr 6 0, xr 11 0]) (b := 86) (c_X6_init_u (d + 4) h22 _ hq) rfl rfl dX11_init_83 cw_X11_47 rfl rfl (Nat.le_of_ble_eq_true rfl) ⟨Nat.le_of_ble_eq_true rfl, Nat.le_of_ble_eq_true rfl⟩ rfl (fun rv hh hp _ => ?_)
  refine x_u (u2 := (80, 5225)) rfl ?_
  obtain ⟨rfl, rfl⟩ := hp
  refine x_putRF (b := 89) fk_X11_50 dX11_init_86 rfl rfl (fun _ _ _ h9 => by cases h9; rfl) rfl 6 rfl ?_
  obtain ⟨h25, e_h25, hF⟩ := lt_e hF
  refine x_hp (h2 := h25) e_h25 ?_
  refine x_aload_n (i := 0) (b := 90) dX11_init_89 rfl rfl rfl ?_
  obtain ⟨hs, hF⟩ := ckp_e hF
  refine x_new (r := 10) (i := 0) (N := 9) (b := 93) dX11_init_90 rfl (by decide) rfl lay_10 tyX10_ok dv_10 ki_702 ki_631 ki_129 hs ⟨Nat.le_of_ble_eq_true rfl, Nat.le_of_ble_eq_true rfl⟩ rfl ?_
  obtain ⟨h26, e_h26, hF⟩ := lt_e hF
  refine x_hp (h2 := h26) e_h26 ?_
  refine x_u (u2 := (81, 5234)) rfl ?_
  refine x_dup (b := 94) dX11_init_93 rfl rfl ?_
  obtain ⟨v27, h28, hq, hF⟩ := bd_e hF
  refine x_callI (as := []) (rest := [xr 10 0, xr 11 0]) (b := 97) (c_X10_init_u (d + 5) 0 h26 _ hq) rfl rfl dX11_init_94 cw_X11_56 rfl rfl (Nat.le_of_ble_eq_true rfl) ⟨Nat.le_of_ble_eq_true rfl, Nat.le_of_ble_eq_true rfl⟩ rfl (fun rv hh hp _ => ?_)
  refine x_u (u2 := (82, 5243)) rfl ?_
  obtain ⟨rfl, rfl⟩ := hp
  refine x_putRF (b := 100) fk_X11_57 dX11_init_97 rfl rfl (fun _ _ _ h9 => by cases h9; rfl) rfl 7 rfl ?_
  obtain ⟨h29, e_h29, hF⟩ := lt_e hF
  refine x_hp (h2 := h29) e_h29 ?_
  refine x_aload_n (i := 0) (b := 101) dX11_init_100 rfl rfl rfl ?_
  obtain ⟨hs, hF⟩ := ckp_e hF
  refine x_new (r := 3) (i := 0) (N := 5) (b := 104) dX11_init_101 rfl (by decide) rfl lay_3 tyX3_ok dv_3 ki_704 ki_705 ki_130 hs ⟨Nat.le_of_ble_eq_true rfl, Nat.le_of_ble_eq_true rfl⟩ rfl ?_
  obtain ⟨h30, e_h30, hF⟩ := lt_e hF
  refine x_hp (h2 := h30) e_h30 ?_
  refine x_u (u2 := (83, 5248)) rfl ?_
  refine x_dup (b := 105) dX11_init_104 rfl rfl ?_
  obtain ⟨v31, h32, hq, hF⟩ := bd_e hF
  refine x_callI (as := []) (rest := [xr 3 0, xr 11 0]) (b := 108) (c_X3_init_u (d + 5) 0 h30 _ hq) rfl rfl dX11_init_105 cw_X11_63 rfl rfl (Nat.le_of_ble_eq_true rfl) ⟨Nat.le_of_ble_eq_true rfl, Nat.le_of_ble_eq_true rfl⟩ rfl (fun rv hh hp _ => ?_)
  refine x_u (u2 := (88, 5548)) rfl ?_
  obtain ⟨rfl, rfl⟩ := hp
  refine x_putRF (b := 111) fk_X11_64 dX11_init_108 rfl rfl (fun _ _ _ h9 => by cases h9; rfl) rfl 8 rfl ?_
  obtain ⟨h33, e_h33, hF⟩ := lt_e hF
  refine x_hp (h2 := h33) e_h33 ?_
  refine x_aload_n (i := 0) (b := 112) dX11_init_111 rfl rfl rfl ?_
  refine x_bipush (n := 20) (b := 114) dX11_init_112 (by decide) rfl ?_
  obtain ⟨hs, hF⟩ := ckp_e hF
  refine x_newq (r := 59) (i := 0) (N := 20) (b := 117) dX11_init_114 ak_59 rfl rfl ki_702 rfl aoV (by decide) hs ⟨Nat.le_of_ble_eq_true rfl, Nat.le_of_ble_eq_true rfl⟩ rfl ?_
  obtain ⟨h34, e_h34, hF⟩ := lt_e hF
  refine x_hp (h2 := h34) e_h34 ?_
  refine x_u (u2 := (89, 5568)) rfl ?_
  refine x_putAF (b := 120) fk_X11_68 dX11_init_117 rfl rfl (fun _ _ _ h9 => by cases h9; rfl) rfl 9 rfl ?_
  obtain ⟨h35, e_h35, hF⟩ := lt_e hF
  refine x_hp (h2 := h35) e_h35 ?_
  refine x_aload_n (i := 0) (b := 121) dX11_init_120 rfl rfl rfl ?_
  refine x_iconst (n := 0) (b := 122) dX11_init_121 (by decide) rfl ?_
  refine x_putI (b := 125) fk_X11_72 dX11_init_122 rfl rfl 10 rfl ?_
  obtain ⟨h36, e_h36, hF⟩ := lt_e hF
  refine x_hp (h2 := h36) e_h36 ?_
  refine x_aload_n (i := 0) (b := 126) dX11_init_125 rfl rfl rfl ?_
  obtain ⟨hs, hF⟩ := ckp_e hF
  refine x_new (r := 10) (i := 21) (N := 9) (b := 129) dX11_init_126 rfl (by decide) rfl lay_10 tyX10_ok dv_10 ki_702 ki_631 ki_129 hs ⟨Nat.le_of_ble_eq_true rfl, Nat.le_of_ble_eq_true rfl⟩ rfl ?_
  obtain ⟨h37, e_h37, hF⟩ := lt_e hF
  refine x_hp (h2 := h37) e_h37 ?_
  refine x_u (u2 := (90, 5577)) rfl ?_
  refine x_dup (b := 130) dX11_init_129 rfl rfl ?_
  obtain ⟨v38, h39, hq, hF⟩ := bd_e hF
  refine x_callI (as := []) (rest := [xr 10 21, xr 11 0]) (b := 133) (c_X10_init_u (d + 5) 21 h37 _ hq) rfl rfl dX11_init_130 cw_X11_56 rfl rfl (Nat.le_of_ble_eq_true rfl) ⟨Nat.le_of_ble_eq_true rfl, Nat.le_of_ble_eq_true rfl⟩ rfl (fun rv hh hp _ => ?_)
  refine x_u (u2 := (91, 5586)) rfl ?_
  obtain ⟨rfl, rfl⟩ := hp
  refine x_putRF (b := 136) fk_X11_75 dX11_init_133 rfl rfl (fun _ _ _ h9 => by cases h9; rfl) rfl 11 rfl ?_
  obtain ⟨h40, e_h40, hF⟩ := lt_e hF
  refine x_hp (h2 := h40) e_h40 ?_
  refine x_aload_n (i := 0) (b := 137) dX11_init_136 rfl rfl rfl ?_
  obtain ⟨hs, hF⟩ := ckp_e hF
  refine x_new (r := 3) (i := 1) (N := 5) (b := 140) dX11_init_137 rfl (by decide) rfl lay_3 tyX3_ok dv_3 ki_704 ki_705 ki_130 hs ⟨Nat.le_of_ble_eq_true rfl, Nat.le_of_ble_eq_true rfl⟩ rfl ?_
  obtain ⟨h41, e_h41, hF⟩ := lt_e hF
  refine x_hp (h2 := h41) e_h41 ?_
  refine x_u (u2 := (92, 5591)) rfl ?_
  refine x_dup (b := 141) dX11_init_140 rfl rfl ?_
  obtain ⟨v42, h43, hq, hF⟩ := bd_e hF
  refine x_callI (as := []) (rest := [xr 3 1, xr 11 0]) (b := 144) (c_X3_init_u (d + 5) 1 h41 _ hq) rfl rfl dX11_init_141 cw_X11_63 rfl rfl (Nat.le_of_ble_eq_true rfl) ⟨Nat.le_of_ble_eq_true rfl, Nat.le_of_ble_eq_true rfl⟩ rfl (fun rv hh hp _ => ?_)
  refine x_u (u2 := (97, 5891)) rfl ?_
  obtain ⟨rfl, rfl⟩ := hp
  refine x_putRF (b := 147) fk_X11_78 dX11_init_144 rfl rfl (fun _ _ _ h9 => by cases h9; rfl) rfl 12 rfl ?_
  obtain ⟨h44, e_h44, hF⟩ := lt_e hF
  refine x_hp (h2 := h44) e_h44 ?_
  refine x_aload_n (i := 0) (b := 148) dX11_init_147 rfl rfl rfl ?_
  refine x_iconst (n := 0) (b := 149) dX11_init_148 (by decide) rfl ?_
  refine x_putZ (b := 152) fk_X11_81 dX11_init_149 rfl (by decide) rfl 13 rfl ?_
  obtain ⟨h45, e_h45, hF⟩ := lt_e hF
  refine x_hp (h2 := h45) e_h45 ?_
  refine x_aload_n (i := 0) (b := 153) dX11_init_152 rfl rfl rfl ?_
  obtain ⟨hs, hF⟩ := ckp_e hF
  refine x_new (r := 5) (i := 0) (N := 6) (b := 156) dX11_init_153 rfl (by decide) rfl lay_5 tyX5_ok dv_5 ki_731 ki_732 ki_131 hs ⟨Nat.le_of_ble_eq_true rfl, Nat.le_of_ble_eq_true rfl⟩ rfl ?_
  obtain ⟨h46, e_h46, hF⟩ := lt_e hF
  refine x_hp (h2 := h46) e_h46 ?_
  refine x_u (u2 := (98, 5897)) rfl ?_
  refine x_dup (b := 157) dX11_init_156 rfl rfl ?_
  obtain ⟨v47, h48, hq, hF⟩ := bd_e hF
  refine x_callI (as := []) (rest := [xr 5 0, xr 11 0]) (b := 160) (c_X5_init_u (d + 5) h46 _ hq) rfl rfl dX11_init_157 cw_X11_87 rfl rfl (Nat.le_of_ble_eq_true rfl) ⟨Nat.le_of_ble_eq_true rfl, Nat.le_of_ble_eq_true rfl⟩ rfl (fun rv hh hp _ => ?_)
  refine x_u (u2 := (102, 6025)) rfl ?_
  obtain ⟨rfl, rfl⟩ := hp
  refine x_putRF (b := 163) fk_X11_88 dX11_init_160 rfl rfl (fun _ _ _ h9 => by cases h9; rfl) rfl 14 rfl ?_
  obtain ⟨h49, e_h49, hF⟩ := lt_e hF
  refine x_hp (h2 := h49) e_h49 ?_
  refine x_aload_n (i := 0) (b := 164) dX11_init_163 rfl rfl rfl ?_
  obtain ⟨hs, hF⟩ := ckp_e hF
  refine x_new (r := 10) (i := 22) (N := 9) (b := 167) dX11_init_164 rfl (by decide) rfl lay_10 tyX10_ok dv_10 ki_702 ki_631 ki_129 hs ⟨Nat.le_of_ble_eq_true rfl, Nat.le_of_ble_eq_true rfl⟩ rfl ?_
  obtain ⟨h50, e_h50, hF⟩ := lt_e hF
  refine x_hp (h2 := h50) e_h50 ?_
  refine x_u (u2 := (103, 6034)) rfl ?_
  refine x_dup (b := 168) dX11_init_167 rfl rfl ?_
  obtain ⟨v51, h52, hq, hF⟩ := bd_e hF
  refine x_callI (as := []) (rest := [xr 10 22, xr 11 0]) (b := 171) (c_X10_init_u (d + 5) 22 h50 _ hq) rfl rfl dX11_init_168 cw_X11_56 rfl rfl (Nat.le_of_ble_eq_true rfl) ⟨Nat.le_of_ble_eq_true rfl, Nat.le_of_ble_eq_true rfl⟩ rfl (fun rv hh hp _ => ?_)
  refine x_u (u2 := (104, 6043)) rfl ?_
  obtain ⟨rfl, rfl⟩ := hp
  refine x_putRF (b := 174) fk_X11_92 dX11_init_171 rfl rfl (fun _ _ _ h9 => by cases h9; rfl) rfl 15 rfl ?_
  obtain ⟨h53, e_h53, hF⟩ := lt_e hF
  refine x_hp (h2 := h53) e_h53 ?_
  refine x_aload_n (i := 0) (b := 175) dX11_init_174 rfl rfl rfl ?_
  refine x_iconst (n := (-1)) (b := 176) dX11_init_175 (by decide) rfl ?_
  refine x_putI (b := 179) fk_X11_95 dX11_init_176 rfl rfl 16 rfl ?_
  obtain ⟨h54, e_h54, hF⟩ := lt_e hF
  refine x_hp (h2 := h54) e_h54 ?_
  refine x_iconst (n := 0) (b := 180) dX11_init_179 (by decide) rfl ?_
  refine x_istore_n (i := 1) (b := 181) (ls2 := [some (xr 11 0), some (xi 0)]) dX11_init_180 rfl (Nat.le_of_ble_eq_true rfl) rfl rfl ?_
  refine x_iload_n (i := 1) (b := 182) dX11_init_181 rfl rfl rfl ?_
  refine x_bipush (n := 20) (b := 184) dX11_init_182 (by decide) rfl ?_
  refine x_icmp_ge (tgt := 206) (b := 187) dX11_init_184 (by decide) rfl (fun hc => absurd hc (by decide)) (fun hc => ?_)
  refine x_aload_n (i := 0) (b := 188) dX11_init_187 rfl rfl rfl ?_
  obtain ⟨hs, hF⟩ := ck_e hF
  refine x_getR (v := some (59, 0)) (b := 191) fk_X11_68 dX11_init_188 rfl hs rfl ?_
  refine x_iload_n (i := 1) (b := 192) dX11_init_191 rfl rfl rfl ?_
  obtain ⟨hs, hF⟩ := ckp_e hF
  refine x_new (r := 10) (i := 1) (N := 9) (b := 195) dX11_init_192 rfl (by decide) rfl lay_10 tyX10_ok dv_10 ki_702 ki_631 ki_129 hs ⟨Nat.le_of_ble_eq_true rfl, Nat.le_of_ble_eq_true rfl⟩ rfl ?_
  obtain ⟨h55, e_h55, hF⟩ := lt_e hF
  refine x_hp (h2 := h55) e_h55 ?_
  refine x_u (u2 := (105, 6052)) rfl ?_
  refine x_dup (b := 196) dX11_init_195 rfl rfl ?_
  obtain ⟨v56, h57, hq, hF⟩ := bd_e hF
  refine x_callI (as := []) (rest := [xr 10 1, xi 0, xr 59 0]) (b := 199) (c_X10_init_u (d + 5) 1 h55 _ hq) rfl rfl dX11_init_196 cw_X11_56 rfl rfl (Nat.le_of_ble_eq_true rfl) ⟨Nat.le_of_ble_eq_true rfl, Nat.le_of_ble_eq_true rfl⟩ rfl (fun rv hh hp _ => ?_)
  refine x_u (u2 := (106, 6061)) rfl ?_
  obtain ⟨rfl, rfl⟩ := hp
  obtain ⟨hs, hF⟩ := ck_e hF
  have hs1 := hs
  refine x_aastV (b := 200) ak_59 dX11_init_199 hs1 rfl ?_
  obtain ⟨h58, e_h58, hF⟩ := lt_e hF
  refine x_hp (h2 := h58) e_h58 ?_
  refine x_iinc (i := 1) (b := 203) (ls2 := [some (xr 11 0), some (xi 1)]) dX11_init_200 rfl (Nat.le_of_ble_eq_true rfl) (by decide) rfl rfl ?_
  refine x_goto (tgt := 181) dX11_init_203 (by decide) ?_
  refine x_iload_n (i := 1) (b := 182) dX11_init_181 rfl rfl rfl ?_
  refine x_bipush (n := 20) (b := 184) dX11_init_182 (by decide) rfl ?_
  refine x_icmp_ge (tgt := 206) (b := 187) dX11_init_184 (by decide) rfl (fun hc => absurd hc (by decide)) (fun hc => ?_)
  refine x_aload_n (i := 0) (b := 188) dX11_init_187 rfl rfl rfl ?_
  obtain ⟨hs, hF⟩ := ck_e hF
  refine x_getR (v := some (59, 0)) (b := 191) fk_X11_68 dX11_init_188 rfl hs rfl ?_
  refine x_iload_n (i := 1) (b := 192) dX11_init_191 rfl rfl rfl ?_
  obtain ⟨hs, hF⟩ := ckp_e hF
  refine x_new (r := 10) (i := 2) (N := 9) (b := 195) dX11_init_192 rfl (by decide) rfl lay_10 tyX10_ok dv_10 ki_702 ki_631 ki_129 hs ⟨Nat.le_of_ble_eq_true rfl, Nat.le_of_ble_eq_true rfl⟩ rfl ?_
  obtain ⟨h59, e_h59, hF⟩ := lt_e hF
  refine x_hp (h2 := h59) e_h59 ?_
  refine x_u (u2 := (107, 6070)) rfl ?_
  refine x_dup (b := 196) dX11_init_195 rfl rfl ?_
  obtain ⟨v60, h61, hq, hF⟩ := bd_e hF
  refine x_callI (as := []) (rest := [xr 10 2, xi 1, xr 59 0]) (b := 199) (c_X10_init_u (d + 5) 2 h59 _ hq) rfl rfl dX11_init_196 cw_X11_56 rfl rfl (Nat.le_of_ble_eq_true rfl) ⟨Nat.le_of_ble_eq_true rfl, Nat.le_of_ble_eq_true rfl⟩ rfl (fun rv hh hp _ => ?_)
  refine x_u (u2 := (108, 6079)) rfl ?_
  obtain ⟨rfl, rfl⟩ := hp
  obtain ⟨hs, hF⟩ := ck_e hF
  have hs1 := hs
  refine x_aastV (b := 200) ak_59 dX11_init_199 hs1 rfl ?_
  obtain ⟨h62, e_h62, hF⟩ := lt_e hF
  refine x_hp (h2 := h62) e_h62 ?_
  refine x_iinc (i := 1) (b := 203) (ls2 := [some (xr 11 0), some (xi 2)]) dX11_init_200 rfl (Nat.le_of_ble_eq_true rfl) (by decide) rfl rfl ?_
  refine x_goto (tgt := 181) dX11_init_203 (by decide) ?_
  refine x_iload_n (i := 1) (b := 182) dX11_init_181 rfl rfl rfl ?_
  refine x_bipush (n := 20) (b := 184) dX11_init_182 (by decide) rfl ?_
  refine x_icmp_ge (tgt := 206) (b := 187) dX11_init_184 (by decide) rfl (fun hc => absurd hc (by decide)) (fun hc => ?_)
  refine x_aload_n (i := 0) (b := 188) dX11_init_187 rfl rfl rfl ?_
  obtain ⟨hs, hF⟩ := ck_e hF
  refine x_getR (v := some (59, 0)) (b := 191) fk_X11_68 dX11_init_188 rfl hs rfl ?_
  refine x_iload_n (i := 1) (b := 192) dX11_init_191 rfl rfl rfl ?_
  obtain ⟨hs, hF⟩ := ckp_e hF
  refine x_new (r := 10) (i := 3) (N := 9) (b := 195) dX11_init_192 rfl (by decide) rfl lay_10 tyX10_ok dv_10 ki_702 ki_631 ki_129 hs ⟨Nat.le_of_ble_eq_true rfl, Nat.le_of_ble_eq_true rfl⟩ rfl ?_
  obtain ⟨h63, e_h63, hF⟩ := lt_e hF
  refine x_hp (h2 := h63) e_h63 ?_
  refine x_u (u2 := (109, 6088)) rfl ?_
  refine x_dup (b := 196) dX11_init_195 rfl rfl ?_
  obtain ⟨v64, h65, hq, hF⟩ := bd_e hF
  refine x_callI (as := []) (rest := [xr 10 3, xi 2, xr 59 0]) (b := 199) (c_X10_init_u (d + 5) 3 h63 _ hq) rfl rfl dX11_init_196 cw_X11_56 rfl rfl (Nat.le_of_ble_eq_true rfl) ⟨Nat.le_of_ble_eq_true rfl, Nat.le_of_ble_eq_true rfl⟩ rfl (fun rv hh hp _ => ?_)
  refine x_u (u2 := (110, 6097)) rfl ?_
  obtain ⟨rfl, rfl⟩ := hp
  obtain ⟨hs, hF⟩ := ck_e hF
  have hs1 := hs
  refine x_aastV (b := 200) ak_59 dX11_init_199 hs1 rfl ?_
  obtain ⟨h66, e_h66, hF⟩ := lt_e hF
  refine x_hp (h2 := h66) e_h66 ?_
  refine x_iinc (i := 1) (b := 203) (ls2 := [some (xr 11 0), some (xi 3)]) dX11_init_200 rfl (Nat.le_of_ble_eq_true rfl) (by decide) rfl rfl ?_
  refine x_goto (tgt := 181) dX11_init_203 (by decide) ?_
  refine x_iload_n (i := 1) (b := 182) dX11_init_181 rfl rfl rfl ?_
  refine x_bipush (n := 20) (b := 184) dX11_init_182 (by decide) rfl ?_
  refine x_icmp_ge (tgt := 206) (b := 187) dX11_init_184 (by decide) rfl (fun hc => absurd hc (by decide)) (fun hc => ?_)
  refine x_aload_n (i := 0) (b := 188) dX11_init_187 rfl rfl rfl ?_
  obtain ⟨hs, hF⟩ := ck_e hF
  refine x_getR (v := some (59, 0)) (b := 191) fk_X11_68 dX11_init_188 rfl hs rfl ?_
  refine x_iload_n (i := 1) (b := 192) dX11_init_191 rfl rfl rfl ?_
  obtain ⟨hs, hF⟩ := ckp_e hF
  refine x_new (r := 10) (i := 4) (N := 9) (b := 195) dX11_init_192 rfl (by decide) rfl lay_10 tyX10_ok dv_10 ki_702 ki_631 ki_129 hs ⟨Nat.le_of_ble_eq_true rfl, Nat.le_of_ble_eq_true rfl⟩ rfl ?_
  obtain ⟨h67, e_h67, hF⟩ := lt_e hF
  refine x_hp (h2 := h67) e_h67 ?_
  refine x_u (u2 := (111, 6106)) rfl ?_
  refine x_dup (b := 196) dX11_init_195 rfl rfl ?_
  obtain ⟨v68, h69, hq, hF⟩ := bd_e hF
  refine x_callI (as := []) (rest := [xr 10 4, xi 3, xr 59 0]) (b := 199) (c_X10_init_u (d + 5) 4 h67 _ hq) rfl rfl dX11_init_196 cw_X11_56 rfl rfl (Nat.le_of_ble_eq_true rfl) ⟨Nat.le_of_ble_eq_true rfl, Nat.le_of_ble_eq_true rfl⟩ rfl (fun rv hh hp _ => ?_)
  refine x_u (u2 := (112, 6115)) rfl ?_
  obtain ⟨rfl, rfl⟩ := hp
  obtain ⟨hs, hF⟩ := ck_e hF
  have hs1 := hs
  refine x_aastV (b := 200) ak_59 dX11_init_199 hs1 rfl ?_
  obtain ⟨h70, e_h70, hF⟩ := lt_e hF
  refine x_hp (h2 := h70) e_h70 ?_
  refine x_iinc (i := 1) (b := 203) (ls2 := [some (xr 11 0), some (xi 4)]) dX11_init_200 rfl (Nat.le_of_ble_eq_true rfl) (by decide) rfl rfl ?_
  refine x_goto (tgt := 181) dX11_init_203 (by decide) ?_
  refine x_iload_n (i := 1) (b := 182) dX11_init_181 rfl rfl rfl ?_
  refine x_bipush (n := 20) (b := 184) dX11_init_182 (by decide) rfl ?_
  refine x_icmp_ge (tgt := 206) (b := 187) dX11_init_184 (by decide) rfl (fun hc => absurd hc (by decide)) (fun hc => ?_)
  refine x_aload_n (i := 0) (b := 188) dX11_init_187 rfl rfl rfl ?_
  obtain ⟨hs, hF⟩ := ck_e hF
  refine x_getR (v := some (59, 0)) (b := 191) fk_X11_68 dX11_init_188 rfl hs rfl ?_
  refine x_iload_n (i := 1) (b := 192) dX11_init_191 rfl rfl rfl ?_
  obtain ⟨hs, hF⟩ := ckp_e hF
  refine x_new (r := 10) (i := 5) (N := 9) (b := 195) dX11_init_192 rfl (by decide) rfl lay_10 tyX10_ok dv_10 ki_702 ki_631 ki_129 hs ⟨Nat.le_of_ble_eq_true rfl, Nat.le_of_ble_eq_true rfl⟩ rfl ?_
  obtain ⟨h71, e_h71, hF⟩ := lt_e hF
  refine x_hp (h2 := h71) e_h71 ?_
  refine x_u (u2 := (113, 6124)) rfl ?_
  refine x_dup (b := 196) dX11_init_195 rfl rfl ?_
  obtain ⟨v72, h73, hq, hF⟩ := bd_e hF
  refine x_callI (as := []) (rest := [xr 10 5, xi 4, xr 59 0]) (b := 199) (c_X10_init_u (d + 5) 5 h71 _ hq) rfl rfl dX11_init_196 cw_X11_56 rfl rfl (Nat.le_of_ble_eq_true rfl) ⟨Nat.le_of_ble_eq_true rfl, Nat.le_of_ble_eq_true rfl⟩ rfl (fun rv hh hp _ => ?_)
  refine x_u (u2 := (114, 6133)) rfl ?_
  obtain ⟨rfl, rfl⟩ := hp
  obtain ⟨hs, hF⟩ := ck_e hF
  have hs1 := hs
  refine x_aastV (b := 200) ak_59 dX11_init_199 hs1 rfl ?_
  obtain ⟨h74, e_h74, hF⟩ := lt_e hF
  refine x_hp (h2 := h74) e_h74 ?_
  refine x_iinc (i := 1) (b := 203) (ls2 := [some (xr 11 0), some (xi 5)]) dX11_init_200 rfl (Nat.le_of_ble_eq_true rfl) (by decide) rfl rfl ?_
  refine x_goto (tgt := 181) dX11_init_203 (by decide) ?_
  refine x_iload_n (i := 1) (b := 182) dX11_init_181 rfl rfl rfl ?_
  refine x_bipush (n := 20) (b := 184) dX11_init_182 (by decide) rfl ?_
  refine x_icmp_ge (tgt := 206) (b := 187) dX11_init_184 (by decide) rfl (fun hc => absurd hc (by decide)) (fun hc => ?_)
  refine x_aload_n (i := 0) (b := 188) dX11_init_187 rfl rfl rfl ?_
  obtain ⟨hs, hF⟩ := ck_e hF
  refine x_getR (v := some (59, 0)) (b := 191) fk_X11_68 dX11_init_188 rfl hs rfl ?_
  refine x_iload_n (i := 1) (b := 192) dX11_init_191 rfl rfl rfl ?_
  obtain ⟨hs, hF⟩ := ckp_e hF
  refine x_new (r := 10) (i := 6) (N := 9) (b := 195) dX11_init_192 rfl (by decide) rfl lay_10 tyX10_ok dv_10 ki_702 ki_631 ki_129 hs ⟨Nat.le_of_ble_eq_true rfl, Nat.le_of_ble_eq_true rfl⟩ rfl ?_
  obtain ⟨h75, e_h75, hF⟩ := lt_e hF
  refine x_hp (h2 := h75) e_h75 ?_
  refine x_u (u2 := (115, 6142)) rfl ?_
  refine x_dup (b := 196) dX11_init_195 rfl rfl ?_
  obtain ⟨v76, h77, hq, hF⟩ := bd_e hF
  refine x_callI (as := []) (rest := [xr 10 6, xi 5, xr 59 0]) (b := 199) (c_X10_init_u (d + 5) 6 h75 _ hq) rfl rfl dX11_init_196 cw_X11_56 rfl rfl (Nat.le_of_ble_eq_true rfl) ⟨Nat.le_of_ble_eq_true rfl, Nat.le_of_ble_eq_true rfl⟩ rfl (fun rv hh hp _ => ?_)
  refine x_u (u2 := (116, 6151)) rfl ?_
  obtain ⟨rfl, rfl⟩ := hp
  obtain ⟨hs, hF⟩ := ck_e hF
  have hs1 := hs
  refine x_aastV (b := 200) ak_59 dX11_init_199 hs1 rfl ?_
  obtain ⟨h78, e_h78, hF⟩ := lt_e hF
  refine x_hp (h2 := h78) e_h78 ?_
  refine x_iinc (i := 1) (b := 203) (ls2 := [some (xr 11 0), some (xi 6)]) dX11_init_200 rfl (Nat.le_of_ble_eq_true rfl) (by decide) rfl rfl ?_
  refine x_goto (tgt := 181) dX11_init_203 (by decide) ?_
  refine x_iload_n (i := 1) (b := 182) dX11_init_181 rfl rfl rfl ?_
  refine x_bipush (n := 20) (b := 184) dX11_init_182 (by decide) rfl ?_
  refine x_icmp_ge (tgt := 206) (b := 187) dX11_init_184 (by decide) rfl (fun hc => absurd hc (by decide)) (fun hc => ?_)
  refine x_aload_n (i := 0) (b := 188) dX11_init_187 rfl rfl rfl ?_
  obtain ⟨hs, hF⟩ := ck_e hF
  refine x_getR (v := some (59, 0)) (b := 191) fk_X11_68 dX11_init_188 rfl hs rfl ?_
  refine x_iload_n (i := 1) (b := 192) dX11_init_191 rfl rfl rfl ?_
  obtain ⟨hs, hF⟩ := ckp_e hF
  refine x_new (r := 10) (i := 7) (N := 9) (b := 195) dX11_init_192 rfl (by decide) rfl lay_10 tyX10_ok dv_10 ki_702 ki_631 ki_129 hs ⟨Nat.le_of_ble_eq_true rfl, Nat.le_of_ble_eq_true rfl⟩ rfl ?_
  obtain ⟨h79, e_h79, hF⟩ := lt_e hF
  refine x_hp (h2 := h79) e_h79 ?_
  refine x_u (u2 := (117, 6160)) rfl ?_
  refine x_dup (b := 196) dX11_init_195 rfl rfl ?_
  obtain ⟨v80, h81, hq, hF⟩ := bd_e hF
  refine x_callI (as := []) (rest := [xr 10 7, xi 6, xr 59 0]) (b := 199) (c_X10_init_u (d + 5) 7 h79 _ hq) rfl rfl dX11_init_196 cw_X11_56 rfl rfl (Nat.le_of_ble_eq_true rfl) ⟨Nat.le_of_ble_eq_true rfl, Nat.le_of_ble_eq_true rfl⟩ rfl (fun rv hh hp _ => ?_)
  refine x_u (u2 := (118, 6169)) rfl ?_
  obtain ⟨rfl, rfl⟩ := hp
  obtain ⟨hs, hF⟩ := ck_e hF
  have hs1 := hs
  refine x_aastV (b := 200) ak_59 dX11_init_199 hs1 rfl ?_
  obtain ⟨h82, e_h82, hF⟩ := lt_e hF
  refine x_hp (h2 := h82) e_h82 ?_
  refine x_iinc (i := 1) (b := 203) (ls2 := [some (xr 11 0), some (xi 7)]) dX11_init_200 rfl (Nat.le_of_ble_eq_true rfl) (by decide) rfl rfl ?_
  refine x_goto (tgt := 181) dX11_init_203 (by decide) ?_
  refine x_iload_n (i := 1) (b := 182) dX11_init_181 rfl rfl rfl ?_
  refine x_bipush (n := 20) (b := 184) dX11_init_182 (by decide) rfl ?_
  refine x_icmp_ge (tgt := 206) (b := 187) dX11_init_184 (by decide) rfl (fun hc => absurd hc (by decide)) (fun hc => ?_)
  refine x_aload_n (i := 0) (b := 188) dX11_init_187 rfl rfl rfl ?_
  obtain ⟨hs, hF⟩ := ck_e hF
  refine x_getR (v := some (59, 0)) (b := 191) fk_X11_68 dX11_init_188 rfl hs rfl ?_
  refine x_iload_n (i := 1) (b := 192) dX11_init_191 rfl rfl rfl ?_
  obtain ⟨hs, hF⟩ := ckp_e hF
  refine x_new (r := 10) (i := 8) (N := 9) (b := 195) dX11_init_192 rfl (by decide) rfl lay_10 tyX10_ok dv_10 ki_702 ki_631 ki_129 hs ⟨Nat.le_of_ble_eq_true rfl, Nat.le_of_ble_eq_true rfl⟩ rfl ?_
  obtain ⟨h83, e_h83, hF⟩ := lt_e hF
  refine x_hp (h2 := h83) e_h83 ?_
  refine x_u (u2 := (119, 6178)) rfl ?_
  refine x_dup (b := 196) dX11_init_195 rfl rfl ?_
  obtain ⟨v84, h85, hq, hF⟩ := bd_e hF
  refine x_callI (as := []) (rest := [xr 10 8, xi 7, xr 59 0]) (b := 199) (c_X10_init_u (d + 5) 8 h83 _ hq) rfl rfl dX11_init_196 cw_X11_56 rfl rfl (Nat.le_of_ble_eq_true rfl) ⟨Nat.le_of_ble_eq_true rfl, Nat.le_of_ble_eq_true rfl⟩ rfl (fun rv hh hp _ => ?_)
  refine x_u (u2 := (120, 6187)) rfl ?_
  obtain ⟨rfl, rfl⟩ := hp
  obtain ⟨hs, hF⟩ := ck_e hF
  have hs1 := hs
  refine x_aastV (b := 200) ak_59 dX11_init_199 hs1 rfl ?_
  obtain ⟨h86, e_h86, hF⟩ := lt_e hF
  refine x_hp (h2 := h86) e_h86 ?_
  refine x_iinc (i := 1) (b := 203) (ls2 := [some (xr 11 0), some (xi 8)]) dX11_init_200 rfl (Nat.le_of_ble_eq_true rfl) (by decide) rfl rfl ?_
  refine x_goto (tgt := 181) dX11_init_203 (by decide) ?_
  refine x_iload_n (i := 1) (b := 182) dX11_init_181 rfl rfl rfl ?_
  refine x_bipush (n := 20) (b := 184) dX11_init_182 (by decide) rfl ?_
  refine x_icmp_ge (tgt := 206) (b := 187) dX11_init_184 (by decide) rfl (fun hc => absurd hc (by decide)) (fun hc => ?_)
  refine x_aload_n (i := 0) (b := 188) dX11_init_187 rfl rfl rfl ?_
  obtain ⟨hs, hF⟩ := ck_e hF
  refine x_getR (v := some (59, 0)) (b := 191) fk_X11_68 dX11_init_188 rfl hs rfl ?_
  refine x_iload_n (i := 1) (b := 192) dX11_init_191 rfl rfl rfl ?_
  obtain ⟨hs, hF⟩ := ckp_e hF
  refine x_new (r := 10) (i := 9) (N := 9) (b := 195) dX11_init_192 rfl (by decide) rfl lay_10 tyX10_ok dv_10 ki_702 ki_631 ki_129 hs ⟨Nat.le_of_ble_eq_true rfl, Nat.le_of_ble_eq_true rfl⟩ rfl ?_
  obtain ⟨h87, e_h87, hF⟩ := lt_e hF
  refine x_hp (h2 := h87) e_h87 ?_
  refine x_u (u2 := (121, 6196)) rfl ?_
  refine x_dup (b := 196) dX11_init_195 rfl rfl ?_
  obtain ⟨v88, h89, hq, hF⟩ := bd_e hF
  refine x_callI (as := []) (rest := [xr 10 9, xi 8, xr 59 0]) (b := 199) (c_X10_init_u (d + 5) 9 h87 _ hq) rfl rfl dX11_init_196 cw_X11_56 rfl rfl (Nat.le_of_ble_eq_true rfl) ⟨Nat.le_of_ble_eq_true rfl, Nat.le_of_ble_eq_true rfl⟩ rfl (fun rv hh hp _ => ?_)
  refine x_u (u2 := (122, 6205)) rfl ?_
  obtain ⟨rfl, rfl⟩ := hp
  obtain ⟨hs, hF⟩ := ck_e hF
  have hs1 := hs
  refine x_aastV (b := 200) ak_59 dX11_init_199 hs1 rfl ?_
  obtain ⟨h90, e_h90, hF⟩ := lt_e hF
  refine x_hp (h2 := h90) e_h90 ?_
  refine x_iinc (i := 1) (b := 203) (ls2 := [some (xr 11 0), some (xi 9)]) dX11_init_200 rfl (Nat.le_of_ble_eq_true rfl) (by decide) rfl rfl ?_
  refine x_goto (tgt := 181) dX11_init_203 (by decide) ?_
  refine x_iload_n (i := 1) (b := 182) dX11_init_181 rfl rfl rfl ?_
  refine x_bipush (n := 20) (b := 184) dX11_init_182 (by decide) rfl ?_
  refine x_icmp_ge (tgt := 206) (b := 187) dX11_init_184 (by decide) rfl (fun hc => absurd hc (by decide)) (fun hc => ?_)
  refine x_aload_n (i := 0) (b := 188) dX11_init_187 rfl rfl rfl ?_
  obtain ⟨hs, hF⟩ := ck_e hF
  refine x_getR (v := some (59, 0)) (b := 191) fk_X11_68 dX11_init_188 rfl hs rfl ?_
  refine x_iload_n (i := 1) (b := 192) dX11_init_191 rfl rfl rfl ?_
  obtain ⟨hs, hF⟩ := ckp_e hF
  refine x_new (r := 10) (i := 10) (N := 9) (b := 195) dX11_init_192 rfl (by decide) rfl lay_10 tyX10_ok dv_10 ki_702 ki_631 ki_129 hs ⟨Nat.le_of_ble_eq_true rfl, Nat.le_of_ble_eq_true rfl⟩ rfl ?_
  obtain ⟨h91, e_h91, hF⟩ := lt_e hF
  refine x_hp (h2 := h91) e_h91 ?_
  refine x_u (u2 := (123, 6214)) rfl ?_
  refine x_dup (b := 196) dX11_init_195 rfl rfl ?_
  obtain ⟨v92, h93, hq, hF⟩ := bd_e hF
  refine x_callI (as := []) (rest := [xr 10 10, xi 9, xr 59 0]) (b := 199) (c_X10_init_u (d + 5) 10 h91 _ hq) rfl rfl dX11_init_196 cw_X11_56 rfl rfl (Nat.le_of_ble_eq_true rfl) ⟨Nat.le_of_ble_eq_true rfl, Nat.le_of_ble_eq_true rfl⟩ rfl (fun rv hh hp _ => ?_)
  refine x_u (u2 := (124, 6223)) rfl ?_
  obtain ⟨rfl, rfl⟩ := hp
  obtain ⟨hs, hF⟩ := ck_e hF
  have hs1 := hs
  refine x_aastV (b := 200) ak_59 dX11_init_199 hs1 rfl ?_
  obtain ⟨h94, e_h94, hF⟩ := lt_e hF
  refine x_hp (h2 := h94) e_h94 ?_
  refine x_iinc (i := 1) (b := 203) (ls2 := [some (xr 11 0), some (xi 10)]) dX11_init_200 rfl (Nat.le_of_ble_eq_true rfl) (by decide) rfl rfl ?_
  refine x_goto (tgt := 181) dX11_init_203 (by decide) ?_
  refine x_iload_n (i := 1) (b := 182) dX11_init_181 rfl rfl rfl ?_
  refine x_bipush (n := 20) (b := 184) dX11_init_182 (by decide) rfl ?_
  refine x_icmp_ge (tgt := 206) (b := 187) dX11_init_184 (by decide) rfl (fun hc => absurd hc (by decide)) (fun hc => ?_)
  refine x_aload_n (i := 0) (b := 188) dX11_init_187 rfl rfl rfl ?_
  obtain ⟨hs, hF⟩ := ck_e hF
  refine x_getR (v := some (59, 0)) (b := 191) fk_X11_68 dX11_init_188 rfl hs rfl ?_
  refine x_iload_n (i := 1) (b := 192) dX11_init_191 rfl rfl rfl ?_
  obtain ⟨hs, hF⟩ := ckp_e hF
  refine x_new (r := 10) (i := 11) (N := 9) (b := 195) dX11_init_192 rfl (by decide) rfl lay_10 tyX10_ok dv_10 ki_702 ki_631 ki_129 hs ⟨Nat.le_of_ble_eq_true rfl, Nat.le_of_ble_eq_true rfl⟩ rfl ?_
  obtain ⟨h95, e_h95, hF⟩ := lt_e hF
  refine x_hp (h2 := h95) e_h95 ?_
  refine x_u (u2 := (125, 6232)) rfl ?_
  refine x_dup (b := 196) dX11_init_195 rfl rfl ?_
  obtain ⟨v96, h97, hq, hF⟩ := bd_e hF
  refine x_callI (as := []) (rest := [xr 10 11, xi 10, xr 59 0]) (b := 199) (c_X10_init_u (d + 5) 11 h95 _ hq) rfl rfl dX11_init_196 cw_X11_56 rfl rfl (Nat.le_of_ble_eq_true rfl) ⟨Nat.le_of_ble_eq_true rfl, Nat.le_of_ble_eq_true rfl⟩ rfl (fun rv hh hp _ => ?_)
  refine x_u (u2 := (126, 6241)) rfl ?_
  obtain ⟨rfl, rfl⟩ := hp
  obtain ⟨hs, hF⟩ := ck_e hF
  have hs1 := hs
  refine x_aastV (b := 200) ak_59 dX11_init_199 hs1 rfl ?_
  obtain ⟨h98, e_h98, hF⟩ := lt_e hF
  refine x_hp (h2 := h98) e_h98 ?_
  refine x_iinc (i := 1) (b := 203) (ls2 := [some (xr 11 0), some (xi 11)]) dX11_init_200 rfl (Nat.le_of_ble_eq_true rfl) (by decide) rfl rfl ?_
  refine x_goto (tgt := 181) dX11_init_203 (by decide) ?_
  refine x_iload_n (i := 1) (b := 182) dX11_init_181 rfl rfl rfl ?_
  refine x_bipush (n := 20) (b := 184) dX11_init_182 (by decide) rfl ?_
  refine x_icmp_ge (tgt := 206) (b := 187) dX11_init_184 (by decide) rfl (fun hc => absurd hc (by decide)) (fun hc => ?_)
  refine x_aload_n (i := 0) (b := 188) dX11_init_187 rfl rfl rfl ?_
  obtain ⟨hs, hF⟩ := ck_e hF
  refine x_getR (v := some (59, 0)) (b := 191) fk_X11_68 dX11_init_188 rfl hs rfl ?_
  refine x_iload_n (i := 1) (b := 192) dX11_init_191 rfl rfl rfl ?_
  obtain ⟨hs, hF⟩ := ckp_e hF
  refine x_new (r := 10) (i := 12) (N := 9) (b := 195) dX11_init_192 rfl (by decide) rfl lay_10 tyX10_ok dv_10 ki_702 ki_631 ki_129 hs ⟨Nat.le_of_ble_eq_true rfl, Nat.le_of_ble_eq_true rfl⟩ rfl ?_
  obtain ⟨h99, e_h99, hF⟩ := lt_e hF
  refine x_hp (h2 := h99) e_h99 ?_
  refine x_u (u2 := (127, 6250)) rfl ?_
  refine x_dup (b := 196) dX11_init_195 rfl rfl ?_
  obtain ⟨v100, h101, hq, hF⟩ := bd_e hF
  refine x_callI (as := []) (rest := [xr 10 12, xi 11, xr 59 0]) (b := 199) (c_X10_init_u (d + 5) 12 h99 _ hq) rfl rfl dX11_init_196 cw_X11_56 rfl rfl (Nat.le_of_ble_eq_true rfl) ⟨Nat.le_of_ble_eq_true rfl, Nat.le_of_ble_eq_true rfl⟩ rfl (fun rv hh hp _ => ?_)
  refine x_u (u2 := (128, 6259)) rfl ?_
  obtain ⟨rfl, rfl⟩ := hp
  obtain ⟨hs, hF⟩ := ck_e hF
  have hs1 := hs
  refine x_aastV (b := 200) ak_59 dX11_init_199 hs1 rfl ?_
  obtain ⟨h102, e_h102, hF⟩ := lt_e hF
  refine x_hp (h2 := h102) e_h102 ?_
  refine x_iinc (i := 1) (b := 203) (ls2 := [some (xr 11 0), some (xi 12)]) dX11_init_200 rfl (Nat.le_of_ble_eq_true rfl) (by decide) rfl rfl ?_
  refine x_goto (tgt := 181) dX11_init_203 (by decide) ?_
  refine x_iload_n (i := 1) (b := 182) dX11_init_181 rfl rfl rfl ?_
  refine x_bipush (n := 20) (b := 184) dX11_init_182 (by decide) rfl ?_
  refine x_icmp_ge (tgt := 206) (b := 187) dX11_init_184 (by decide) rfl (fun hc => absurd hc (by decide)) (fun hc => ?_)
  refine x_aload_n (i := 0) (b := 188) dX11_init_187 rfl rfl rfl ?_
  obtain ⟨hs, hF⟩ := ck_e hF
  refine x_getR (v := some (59, 0)) (b := 191) fk_X11_68 dX11_init_188 rfl hs rfl ?_
  refine x_iload_n (i := 1) (b := 192) dX11_init_191 rfl rfl rfl ?_
  obtain ⟨hs, hF⟩ := ckp_e hF
  refine x_new (r := 10) (i := 13) (N := 9) (b := 195) dX11_init_192 rfl (by decide) rfl lay_10 tyX10_ok dv_10 ki_702 ki_631 ki_129 hs ⟨Nat.le_of_ble_eq_true rfl, Nat.le_of_ble_eq_true rfl⟩ rfl ?_
  obtain ⟨h103, e_h103, hF⟩ := lt_e hF
  refine x_hp (h2 := h103) e_h103 ?_
  refine x_u (u2 := (129, 6268)) rfl ?_
  refine x_dup (b := 196) dX11_init_195 rfl rfl ?_
  obtain ⟨v104, h105, hq, hF⟩ := bd_e hF
  refine x_callI (as := []) (rest := [xr 10 13, xi 12, xr 59 0]) (b := 199) (c_X10_init_u (d + 5) 13 h103 _ hq) rfl rfl dX11_init_196 cw_X11_56 rfl rfl (Nat.le_of_ble_eq_true rfl) ⟨Nat.le_of_ble_eq_true rfl, Nat.le_of_ble_eq_true rfl⟩ rfl (fun rv hh hp _ => ?_)
  refine x_u (u2 := (130, 6277)) rfl ?_
  obtain ⟨rfl, rfl⟩ := hp
  obtain ⟨hs, hF⟩ := ck_e hF
  have hs1 := hs
  refine x_aastV (b := 200) ak_59 dX11_init_199 hs1 rfl ?_
  obtain ⟨h106, e_h106, hF⟩ := lt_e hF
  refine x_hp (h2 := h106) e_h106 ?_
  refine x_iinc (i := 1) (b := 203) (ls2 := [some (xr 11 0), some (xi 13)]) dX11_init_200 rfl (Nat.le_of_ble_eq_true rfl) (by decide) rfl rfl ?_
  refine x_goto (tgt := 181) dX11_init_203 (by decide) ?_
  refine x_iload_n (i := 1) (b := 182) dX11_init_181 rfl rfl rfl ?_
  refine x_bipush (n := 20) (b := 184) dX11_init_182 (by decide) rfl ?_
  refine x_icmp_ge (tgt := 206) (b := 187) dX11_init_184 (by decide) rfl (fun hc => absurd hc (by decide)) (fun hc => ?_)
  refine x_aload_n (i := 0) (b := 188) dX11_init_187 rfl rfl rfl ?_
  obtain ⟨hs, hF⟩ := ck_e hF
  refine x_getR (v := some (59, 0)) (b := 191) fk_X11_68 dX11_init_188 rfl hs rfl ?_
  refine x_iload_n (i := 1) (b := 192) dX11_init_191 rfl rfl rfl ?_
  obtain ⟨hs, hF⟩ := ckp_e hF
  refine x_new (r := 10) (i := 14) (N := 9) (b := 195) dX11_init_192 rfl (by decide) rfl lay_10 tyX10_ok dv_10 ki_702 ki_631 ki_129 hs ⟨Nat.le_of_ble_eq_true rfl, Nat.le_of_ble_eq_true rfl⟩ rfl ?_
  obtain ⟨h107, e_h107, hF⟩ := lt_e hF
  refine x_hp (h2 := h107) e_h107 ?_
  refine x_u (u2 := (131, 6286)) rfl ?_
  refine x_dup (b := 196) dX11_init_195 rfl rfl ?_
  obtain ⟨v108, h109, hq, hF⟩ := bd_e hF
  refine x_callI (as := []) (rest := [xr 10 14, xi 13, xr 59 0]) (b := 199) (c_X10_init_u (d + 5) 14 h107 _ hq) rfl rfl dX11_init_196 cw_X11_56 rfl rfl (Nat.le_of_ble_eq_true rfl) ⟨Nat.le_of_ble_eq_true rfl, Nat.le_of_ble_eq_true rfl⟩ rfl (fun rv hh hp _ => ?_)
  refine x_u (u2 := (132, 6295)) rfl ?_
  obtain ⟨rfl, rfl⟩ := hp
  obtain ⟨hs, hF⟩ := ck_e hF
  have hs1 := hs
  refine x_aastV (b := 200) ak_59 dX11_init_199 hs1 rfl ?_
  obtain ⟨h110, e_h110, hF⟩ := lt_e hF
  refine x_hp (h2 := h110) e_h110 ?_
  refine x_iinc (i := 1) (b := 203) (ls2 := [some (xr 11 0), some (xi 14)]) dX11_init_200 rfl (Nat.le_of_ble_eq_true rfl) (by decide) rfl rfl ?_
  refine x_goto (tgt := 181) dX11_init_203 (by decide) ?_
  refine x_iload_n (i := 1) (b := 182) dX11_init_181 rfl rfl rfl ?_
  refine x_bipush (n := 20) (b := 184) dX11_init_182 (by decide) rfl ?_
  refine x_icmp_ge (tgt := 206) (b := 187) dX11_init_184 (by decide) rfl (fun hc => absurd hc (by decide)) (fun hc => ?_)
  refine x_aload_n (i := 0) (b := 188) dX11_init_187 rfl rfl rfl ?_
  obtain ⟨hs, hF⟩ := ck_e hF
  refine x_getR (v := some (59, 0)) (b := 191) fk_X11_68 dX11_init_188 rfl hs rfl ?_
  refine x_iload_n (i := 1) (b := 192) dX11_init_191 rfl rfl rfl ?_
  obtain ⟨hs, hF⟩ := ckp_e hF
  refine x_new (r := 10) (i := 15) (N := 9) (b := 195) dX11_init_192 rfl (by decide) rfl lay_10 tyX10_ok dv_10 ki_702 ki_631 ki_129 hs ⟨Nat.le_of_ble_eq_true rfl, Nat.le_of_ble_eq_true rfl⟩ rfl ?_
  obtain ⟨h111, e_h111, hF⟩ := lt_e hF
  refine x_hp (h2 := h111) e_h111 ?_
  refine x_u (u2 := (133, 6304)) rfl ?_
  refine x_dup (b := 196) dX11_init_195 rfl rfl ?_
  obtain ⟨v112, h113, hq, hF⟩ := bd_e hF
  refine x_callI (as := []) (rest := [xr 10 15, xi 14, xr 59 0]) (b := 199) (c_X10_init_u (d + 5) 15 h111 _ hq) rfl rfl dX11_init_196 cw_X11_56 rfl rfl (Nat.le_of_ble_eq_true rfl) ⟨Nat.le_of_ble_eq_true rfl, Nat.le_of_ble_eq_true rfl⟩ rfl (fun rv hh hp _ => ?_)
  refine x_u (u2 := (134, 6313)) rfl ?_
  obtain ⟨rfl, rfl⟩ := hp
  obtain ⟨hs, hF⟩ := ck_e hF
  have hs1 := hs
  refine x_aastV (b := 200) ak_59 dX11_init_199 hs1 rfl ?_
  obtain ⟨h114, e_h114, hF⟩ := lt_e hF
  refine x_hp (h2 := h114) e_h114 ?_
  refine x_iinc (i := 1) (b := 203) (ls2 := [some (xr 11 0), some (xi 15)]) dX11_init_200 rfl (Nat.le_of_ble_eq_true rfl) (by decide) rfl rfl ?_
  refine x_goto (tgt := 181) dX11_init_203 (by decide) ?_
  refine x_iload_n (i := 1) (b := 182) dX11_init_181 rfl rfl rfl ?_
  refine x_bipush (n := 20) (b := 184) dX11_init_182 (by decide) rfl ?_
  refine x_icmp_ge (tgt := 206) (b := 187) dX11_init_184 (by decide) rfl (fun hc => absurd hc (by decide)) (fun hc => ?_)
  refine x_aload_n (i := 0) (b := 188) dX11_init_187 rfl rfl rfl ?_
  obtain ⟨hs, hF⟩ := ck_e hF
  refine x_getR (v := some (59, 0)) (b := 191) fk_X11_68 dX11_init_188 rfl hs rfl ?_
  refine x_iload_n (i := 1) (b := 192) dX11_init_191 rfl rfl rfl ?_
  obtain ⟨hs, hF⟩ := ckp_e hF
  refine x_new (r := 10) (i := 16) (N := 9) (b := 195) dX11_init_192 rfl (by decide) rfl lay_10 tyX10_ok dv_10 ki_702 ki_631 ki_129 hs ⟨Nat.le_of_ble_eq_true rfl, Nat.le_of_ble_eq_true rfl⟩ rfl ?_
  obtain ⟨h115, e_h115, hF⟩ := lt_e hF
  refine x_hp (h2 := h115) e_h115 ?_
  refine x_u (u2 := (135, 6322)) rfl ?_
  refine x_dup (b := 196) dX11_init_195 rfl rfl ?_
  obtain ⟨v116, h117, hq, hF⟩ := bd_e hF
  refine x_callI (as := []) (rest := [xr 10 16, xi 15, xr 59 0]) (b := 199) (c_X10_init_u (d + 5) 16 h115 _ hq) rfl rfl dX11_init_196 cw_X11_56 rfl rfl (Nat.le_of_ble_eq_true rfl) ⟨Nat.le_of_ble_eq_true rfl, Nat.le_of_ble_eq_true rfl⟩ rfl (fun rv hh hp _ => ?_)
  refine x_u (u2 := (136, 6331)) rfl ?_
  obtain ⟨rfl, rfl⟩ := hp
  obtain ⟨hs, hF⟩ := ck_e hF
  have hs1 := hs
  refine x_aastV (b := 200) ak_59 dX11_init_199 hs1 rfl ?_
  obtain ⟨h118, e_h118, hF⟩ := lt_e hF
  refine x_hp (h2 := h118) e_h118 ?_
  refine x_iinc (i := 1) (b := 203) (ls2 := [some (xr 11 0), some (xi 16)]) dX11_init_200 rfl (Nat.le_of_ble_eq_true rfl) (by decide) rfl rfl ?_
  refine x_goto (tgt := 181) dX11_init_203 (by decide) ?_
  refine x_iload_n (i := 1) (b := 182) dX11_init_181 rfl rfl rfl ?_
  refine x_bipush (n := 20) (b := 184) dX11_init_182 (by decide) rfl ?_
  refine x_icmp_ge (tgt := 206) (b := 187) dX11_init_184 (by decide) rfl (fun hc => absurd hc (by decide)) (fun hc => ?_)
  refine x_aload_n (i := 0) (b := 188) dX11_init_187 rfl rfl rfl ?_
  obtain ⟨hs, hF⟩ := ck_e hF
  refine x_getR (v := some (59, 0)) (b := 191) fk_X11_68 dX11_init_188 rfl hs rfl ?_
  refine x_iload_n (i := 1) (b := 192) dX11_init_191 rfl rfl rfl ?_
  obtain ⟨hs, hF⟩ := ckp_e hF
  refine x_new (r := 10) (i := 17) (N := 9) (b := 195) dX11_init_192 rfl (by decide) rfl lay_10 tyX10_ok dv_10 ki_702 ki_631 ki_129 hs ⟨Nat.le_of_ble_eq_true rfl, Nat.le_of_ble_eq_true rfl⟩ rfl ?_
  obtain ⟨h119, e_h119, hF⟩ := lt_e hF
  refine x_hp (h2 := h119) e_h119 ?_
  refine x_u (u2 := (137, 6340)) rfl ?_
  refine x_dup (b := 196) dX11_init_195 rfl rfl ?_
  obtain ⟨v120, h121, hq, hF⟩ := bd_e hF
  refine x_callI (as := []) (rest := [xr 10 17, xi 16, xr 59 0]) (b := 199) (c_X10_init_u (d + 5) 17 h119 _ hq) rfl rfl dX11_init_196 cw_X11_56 rfl rfl (Nat.le_of_ble_eq_true rfl) ⟨Nat.le_of_ble_eq_true rfl, Nat.le_of_ble_eq_true rfl⟩ rfl (fun rv hh hp _ => ?_)
  refine x_u (u2 := (138, 6349)) rfl ?_
  obtain ⟨rfl, rfl⟩ := hp
  obtain ⟨hs, hF⟩ := ck_e hF
  have hs1 := hs
  refine x_aastV (b := 200) ak_59 dX11_init_199 hs1 rfl ?_
  obtain ⟨h122, e_h122, hF⟩ := lt_e hF
  refine x_hp (h2 := h122) e_h122 ?_
  refine x_iinc (i := 1) (b := 203) (ls2 := [some (xr 11 0), some (xi 17)]) dX11_init_200 rfl (Nat.le_of_ble_eq_true rfl) (by decide) rfl rfl ?_
  refine x_goto (tgt := 181) dX11_init_203 (by decide) ?_
  refine x_iload_n (i := 1) (b := 182) dX11_init_181 rfl rfl rfl ?_
  refine x_bipush (n := 20) (b := 184) dX11_init_182 (by decide) rfl ?_
  refine x_icmp_ge (tgt := 206) (b := 187) dX11_init_184 (by decide) rfl (fun hc => absurd hc (by decide)) (fun hc => ?_)
  refine x_aload_n (i := 0) (b := 188) dX11_init_187 rfl rfl rfl ?_
  obtain ⟨hs, hF⟩ := ck_e hF
  refine x_getR (v := some (59, 0)) (b := 191) fk_X11_68 dX11_init_188 rfl hs rfl ?_
  refine x_iload_n (i := 1) (b := 192) dX11_init_191 rfl rfl rfl ?_
  obtain ⟨hs, hF⟩ := ckp_e hF
  refine x_new (r := 10) (i := 18) (N := 9) (b := 195) dX11_init_192 rfl (by decide) rfl lay_10 tyX10_ok dv_10 ki_702 ki_631 ki_129 hs ⟨Nat.le_of_ble_eq_true rfl, Nat.le_of_ble_eq_true rfl⟩ rfl ?_
  obtain ⟨h123, e_h123, hF⟩ := lt_e hF
  refine x_hp (h2 := h123) e_h123 ?_
  refine x_u (u2 := (139, 6358)) rfl ?_
  refine x_dup (b := 196) dX11_init_195 rfl rfl ?_
  obtain ⟨v124, h125, hq, hF⟩ := bd_e hF
  refine x_callI (as := []) (rest := [xr 10 18, xi 17, xr 59 0]) (b := 199) (c_X10_init_u (d + 5) 18 h123 _ hq) rfl rfl dX11_init_196 cw_X11_56 rfl rfl (Nat.le_of_ble_eq_true rfl) ⟨Nat.le_of_ble_eq_true rfl, Nat.le_of_ble_eq_true rfl⟩ rfl (fun rv hh hp _ => ?_)
  refine x_u (u2 := (140, 6367)) rfl ?_
  obtain ⟨rfl, rfl⟩ := hp
  obtain ⟨hs, hF⟩ := ck_e hF
  have hs1 := hs
  refine x_aastV (b := 200) ak_59 dX11_init_199 hs1 rfl ?_
  obtain ⟨h126, e_h126, hF⟩ := lt_e hF
  refine x_hp (h2 := h126) e_h126 ?_
  refine x_iinc (i := 1) (b := 203) (ls2 := [some (xr 11 0), some (xi 18)]) dX11_init_200 rfl (Nat.le_of_ble_eq_true rfl) (by decide) rfl rfl ?_
  refine x_goto (tgt := 181) dX11_init_203 (by decide) ?_
  refine x_iload_n (i := 1) (b := 182) dX11_init_181 rfl rfl rfl ?_
  refine x_bipush (n := 20) (b := 184) dX11_init_182 (by decide) rfl ?_
  refine x_icmp_ge (tgt := 206) (b := 187) dX11_init_184 (by decide) rfl (fun hc => absurd hc (by decide)) (fun hc => ?_)
  refine x_aload_n (i := 0) (b := 188) dX11_init_187 rfl rfl rfl ?_
  obtain ⟨hs, hF⟩ := ck_e hF
  refine x_getR (v := some (59, 0)) (b := 191) fk_X11_68 dX11_init_188 rfl hs rfl ?_
  refine x_iload_n (i := 1) (b := 192) dX11_init_191 rfl rfl rfl ?_
  obtain ⟨hs, hF⟩ := ckp_e hF
  refine x_new (r := 10) (i := 19) (N := 9) (b := 195) dX11_init_192 rfl (by decide) rfl lay_10 tyX10_ok dv_10 ki_702 ki_631 ki_129 hs ⟨Nat.le_of_ble_eq_true rfl, Nat.le_of_ble_eq_true rfl⟩ rfl ?_
  obtain ⟨h127, e_h127, hF⟩ := lt_e hF
  refine x_hp (h2 := h127) e_h127 ?_
  refine x_u (u2 := (141, 6376)) rfl ?_
  refine x_dup (b := 196) dX11_init_195 rfl rfl ?_
  obtain ⟨v128, h129, hq, hF⟩ := bd_e hF
  refine x_callI (as := []) (rest := [xr 10 19, xi 18, xr 59 0]) (b := 199) (c_X10_init_u (d + 5) 19 h127 _ hq) rfl rfl dX11_init_196 cw_X11_56 rfl rfl (Nat.le_of_ble_eq_true rfl) ⟨Nat.le_of_ble_eq_true rfl, Nat.le_of_ble_eq_true rfl⟩ rfl (fun rv hh hp _ => ?_)
  refine x_u (u2 := (142, 6385)) rfl ?_
  obtain ⟨rfl, rfl⟩ := hp
  obtain ⟨hs, hF⟩ := ck_e hF
  have hs1 := hs
  refine x_aastV (b := 200) ak_59 dX11_init_199 hs1 rfl ?_
  obtain ⟨h130, e_h130, hF⟩ := lt_e hF
  refine x_hp (h2 := h130) e_h130 ?_
  refine x_iinc (i := 1) (b := 203) (ls2 := [some (xr 11 0), some (xi 19)]) dX11_init_200 rfl (Nat.le_of_ble_eq_true rfl) (by decide) rfl rfl ?_
  refine x_goto (tgt := 181) dX11_init_203 (by decide) ?_
  refine x_iload_n (i := 1) (b := 182) dX11_init_181 rfl rfl rfl ?_
  refine x_bipush (n := 20) (b := 184) dX11_init_182 (by decide) rfl ?_
  refine x_icmp_ge (tgt := 206) (b := 187) dX11_init_184 (by decide) rfl (fun hc => absurd hc (by decide)) (fun hc => ?_)
  refine x_aload_n (i := 0) (b := 188) dX11_init_187 rfl rfl rfl ?_
  obtain ⟨hs, hF⟩ := ck_e hF
  refine x_getR (v := some (59, 0)) (b := 191) fk_X11_68 dX11_init_188 rfl hs rfl ?_
  refine x_iload_n (i := 1) (b := 192) dX11_init_191 rfl rfl rfl ?_
  obtain ⟨hs, hF⟩ := ckp_e hF
  refine x_new (r := 10) (i := 20) (N := 9) (b := 195) dX11_init_192 rfl (by decide) rfl lay_10 tyX10_ok dv_10 ki_702 ki_631 ki_129 hs ⟨Nat.le_of_ble_eq_true rfl, Nat.le_of_ble_eq_true rfl⟩ rfl ?_
  obtain ⟨h131, e_h131, hF⟩ := lt_e hF
  refine x_hp (h2 := h131) e_h131 ?_
  refine x_u (u2 := (143, 6394)) rfl ?_
  refine x_dup (b := 196) dX11_init_195 rfl rfl ?_
  obtain ⟨v132, h133, hq, hF⟩ := bd_e hF
  refine x_callI (as := []) (rest := [xr 10 20, xi 19, xr 59 0]) (b := 199) (c_X10_init_u (d + 5) 20 h131 _ hq) rfl rfl dX11_init_196 cw_X11_56 rfl rfl (Nat.le_of_ble_eq_true rfl) ⟨Nat.le_of_ble_eq_true rfl, Nat.le_of_ble_eq_true rfl⟩ rfl (fun rv hh hp _ => ?_)
  refine x_u (u2 := (144, 6403)) rfl ?_
  obtain ⟨rfl, rfl⟩ := hp
  obtain ⟨hs, hF⟩ := ck_e hF
  have hs1 := hs
  refine x_aastV (b := 200) ak_59 dX11_init_199 hs1 rfl ?_
  obtain ⟨h134, e_h134, hF⟩ := lt_e hF
  refine x_hp (h2 := h134) e_h134 ?_
  refine x_iinc (i := 1) (b := 203) (ls2 := [some (xr 11 0), some (xi 20)]) dX11_init_200 rfl (Nat.le_of_ble_eq_true rfl) (by decide) rfl rfl ?_
  refine x_goto (tgt := 181) dX11_init_203 (by decide) ?_
  refine x_iload_n (i := 1) (b := 182) dX11_init_181 rfl rfl rfl ?_
  refine x_bipush (n := 20) (b := 184) dX11_init_182 (by decide) rfl ?_
  refine x_icmp_ge (tgt := 206) (b := 187) dX11_init_184 (by decide) rfl (fun hc => ?_) (fun hc => absurd hc (by decide))
  refine x_aload_n (i := 0) (b := 207) dX11_init_206 rfl rfl rfl ?_
  obtain ⟨hs, hF⟩ := ck_e hF
  refine x_getR (v := some (10, 0)) (b := 210) fk_X11_57 dX11_init_207 rfl hs rfl ?_
  refine x_aload_n (i := 0) (b := 211) dX11_init_210 rfl rfl rfl ?_
  obtain ⟨j135, e_j135, hF⟩ := rf_e hF
  refine x_getR (v := some (0, j135)) (b := 214) fk_X11_20 dX11_init_211 rfl e_j135 rfl ?_
  obtain ⟨v136, h137, hq, hF⟩ := bd_e hF
  refine x_callV (as := [xr 0 j135]) (rest := []) (b := 217) (c_X10_begin_u (d + 5) 0 j135 h134 _ hq) dX11_init_214 cw_X11_98 ⟨_, _, rfl, Nat.le_of_ble_eq_true rfl⟩ rfl rfl (Nat.le_of_ble_eq_true rfl) ⟨Nat.le_of_ble_eq_true rfl, Nat.le_of_ble_eq_true rfl⟩ rfl (fun rv hh hp _ => ?_)
  refine x_u (u2 := (144, 6403)) rfl ?_
  obtain ⟨rfl, rfl⟩ := hp
  refine x_return dX11_init_217 rfl ⟨Nat.le_of_ble_eq_true rfl, Nat.le_of_ble_eq_true rfl⟩ ?_
  cases hF
  exact ⟨rfl, rfl⟩
set_option maxHeartbeats 4000000 in
set_option maxRecDepth 100000 in
theorem u_X11_init_u (E : xE) (d : Nat) (r : Int × Hp) : ∀ n : Nat, (∀ (h : Hp), g_X11_init_u n 0 [] h = some r → X E mX11_init (d + 7) (144, 6403) (0, 0) 0 [some (xr 11 0), none] [] h (PuV r)) := by
  intro n
  induction n with
  | zero => exact fun _ hF => no_e (r := r) hF
  | succ n ih => exact fun h hF => t_X11_init_u_0 E d (g_X11_init_u n) r   h hF
theorem c_X11_init_u (d : Nat) (h : Hp) (r : Int × Hp) (hF : f_X11_init_u  h = some r) : Sp mX11_init (d + 7) (144, 6403) [xr 11 0] h (PuV r) :=
  sp_of (by decide) rfl (Nat.le_of_ble_eq_true rfl) (ls := [some (xr 11 0), none]) rfl (fun E _ => (u_X11_init_u E d r FU)  h hF)
theorem dX12_init_0 : decode cX12_init 0 = .ok (.aload_n 0, 1) := by decide +kernel
theorem dX12_init_1 : decode cX12_init 1 = .ok (.invokespecial 1, 3) := by decide +kernel
theorem dX12_init_4 : decode cX12_init 4 = .ok (.aload_n 0, 1) := by decide +kernel
theorem dX12_init_5 : decode cX12_init 5 = .ok (.sipush 800, 3) := by decide +kernel
theorem dX12_init_8 : decode cX12_init 8 = .ok (.newarray .int, 2) := by decide +kernel
theorem dX12_init_10 : decode cX12_init 10 = .ok (.putfield 7, 3) := by decide +kernel
theorem dX12_init_13 : decode cX12_init 13 = .ok (.aload_n 0, 1) := by decide +kernel
theorem dX12_init_14 : decode cX12_init 14 = .ok (.bipush 30, 2) := by decide +kernel
theorem dX12_init_16 : decode cX12_init 16 = .ok (.newarray .int, 2) := by decide +kernel
theorem dX12_init_18 : decode cX12_init 18 = .ok (.dup, 1) := by decide +kernel
theorem dX12_init_19 : decode cX12_init 19 = .ok (.iconst 0, 1) := by decide +kernel
theorem dX12_init_20 : decode cX12_init 20 = .ok (.iconst 4, 1) := by decide +kernel
theorem dX12_init_21 : decode cX12_init 21 = .ok (.iastore, 1) := by decide +kernel
theorem dX12_init_22 : decode cX12_init 22 = .ok (.dup, 1) := by decide +kernel
theorem dX12_init_23 : decode cX12_init 23 = .ok (.iconst 1, 1) := by decide +kernel
theorem dX12_init_24 : decode cX12_init 24 = .ok (.iconst 4, 1) := by decide +kernel
theorem dX12_init_25 : decode cX12_init 25 = .ok (.iastore, 1) := by decide +kernel
theorem dX12_init_26 : decode cX12_init 26 = .ok (.dup, 1) := by decide +kernel
theorem dX12_init_27 : decode cX12_init 27 = .ok (.iconst 2, 1) := by decide +kernel
theorem dX12_init_28 : decode cX12_init 28 = .ok (.iconst 0, 1) := by decide +kernel
theorem dX12_init_29 : decode cX12_init 29 = .ok (.iastore, 1) := by decide +kernel
theorem dX12_init_30 : decode cX12_init 30 = .ok (.dup, 1) := by decide +kernel
theorem dX12_init_31 : decode cX12_init 31 = .ok (.iconst 3, 1) := by decide +kernel
theorem dX12_init_32 : decode cX12_init 32 = .ok (.iconst 0, 1) := by decide +kernel
theorem dX12_init_33 : decode cX12_init 33 = .ok (.iastore, 1) := by decide +kernel
theorem dX12_init_34 : decode cX12_init 34 = .ok (.dup, 1) := by decide +kernel
theorem dX12_init_35 : decode cX12_init 35 = .ok (.iconst 4, 1) := by decide +kernel
theorem dX12_init_36 : decode cX12_init 36 = .ok (.iconst 0, 1) := by decide +kernel
theorem dX12_init_37 : decode cX12_init 37 = .ok (.iastore, 1) := by decide +kernel
theorem dX12_init_38 : decode cX12_init 38 = .ok (.dup, 1) := by decide +kernel
theorem dX12_init_39 : decode cX12_init 39 = .ok (.iconst 5, 1) := by decide +kernel
theorem dX12_init_40 : decode cX12_init 40 = .ok (.iconst 0, 1) := by decide +kernel
theorem dX12_init_41 : decode cX12_init 41 = .ok (.iastore, 1) := by decide +kernel
theorem dX12_init_42 : decode cX12_init 42 = .ok (.dup, 1) := by decide +kernel
theorem dX12_init_43 : decode cX12_init 43 = .ok (.bipush 6, 2) := by decide +kernel
theorem dX12_init_45 : decode cX12_init 45 = .ok (.iconst 0, 1) := by decide +kernel
theorem dX12_init_46 : decode cX12_init 46 = .ok (.iastore, 1) := by decide +kernel
theorem dX12_init_47 : decode cX12_init 47 = .ok (.dup, 1) := by decide +kernel
theorem dX12_init_48 : decode cX12_init 48 = .ok (.bipush 7, 2) := by decide +kernel
theorem dX12_init_50 : decode cX12_init 50 = .ok (.iconst 0, 1) := by decide +kernel
theorem dX12_init_51 : decode cX12_init 51 = .ok (.iastore, 1) := by decide +kernel
theorem dX12_init_52 : decode cX12_init 52 = .ok (.dup, 1) := by decide +kernel
theorem dX12_init_53 : decode cX12_init 53 = .ok (.bipush 8, 2) := by decide +kernel
theorem dX12_init_55 : decode cX12_init 55 = .ok (.iconst 0, 1) := by decide +kernel
theorem dX12_init_56 : decode cX12_init 56 = .ok (.iastore, 1) := by decide +kernel
theorem dX12_init_57 : decode cX12_init 57 = .ok (.dup, 1) := by decide +kernel
theorem dX12_init_58 : decode cX12_init 58 = .ok (.bipush 9, 2) := by decide +kernel
theorem dX12_init_60 : decode cX12_init 60 = .ok (.iconst 1, 1) := by decide +kernel
theorem dX12_init_61 : decode cX12_init 61 = .ok (.iastore, 1) := by decide +kernel
theorem dX12_init_62 : decode cX12_init 62 = .ok (.dup, 1) := by decide +kernel
theorem dX12_init_63 : decode cX12_init 63 = .ok (.bipush 10, 2) := by decide +kernel
theorem dX12_init_65 : decode cX12_init 65 = .ok (.bipush 100, 2) := by decide +kernel
theorem dX12_init_67 : decode cX12_init 67 = .ok (.iastore, 1) := by decide +kernel
theorem dX12_init_68 : decode cX12_init 68 = .ok (.dup, 1) := by decide +kernel
theorem dX12_init_69 : decode cX12_init 69 = .ok (.bipush 11, 2) := by decide +kernel
theorem dX12_init_71 : decode cX12_init 71 = .ok (.iconst 0, 1) := by decide +kernel
theorem dX12_init_72 : decode cX12_init 72 = .ok (.iastore, 1) := by decide +kernel
theorem dX12_init_73 : decode cX12_init 73 = .ok (.dup, 1) := by decide +kernel
theorem dX12_init_74 : decode cX12_init 74 = .ok (.bipush 12, 2) := by decide +kernel
theorem dX12_init_76 : decode cX12_init 76 = .ok (.iconst 0, 1) := by decide +kernel
theorem dX12_init_77 : decode cX12_init 77 = .ok (.iastore, 1) := by decide +kernel
theorem dX12_init_78 : decode cX12_init 78 = .ok (.dup, 1) := by decide +kernel
theorem dX12_init_79 : decode cX12_init 79 = .ok (.bipush 13, 2) := by decide +kernel
theorem dX12_init_81 : decode cX12_init 81 = .ok (.iconst 0, 1) := by decide +kernel
theorem dX12_init_82 : decode cX12_init 82 = .ok (.iastore, 1) := by decide +kernel
theorem dX12_init_83 : decode cX12_init 83 = .ok (.dup, 1) := by decide +kernel
theorem dX12_init_84 : decode cX12_init 84 = .ok (.bipush 14, 2) := by decide +kernel
theorem dX12_init_86 : decode cX12_init 86 = .ok (.iconst 0, 1) := by decide +kernel
theorem dX12_init_87 : decode cX12_init 87 = .ok (.iastore, 1) := by decide +kernel
theorem dX12_init_88 : decode cX12_init 88 = .ok (.dup, 1) := by decide +kernel
theorem dX12_init_89 : decode cX12_init 89 = .ok (.bipush 15, 2) := by decide +kernel
theorem dX12_init_91 : decode cX12_init 91 = .ok (.iconst 4, 1) := by decide +kernel
theorem dX12_init_92 : decode cX12_init 92 = .ok (.iastore, 1) := by decide +kernel
theorem dX12_init_93 : decode cX12_init 93 = .ok (.dup, 1) := by decide +kernel
theorem dX12_init_94 : decode cX12_init 94 = .ok (.bipush 16, 2) := by decide +kernel
theorem dX12_init_96 : decode cX12_init 96 = .ok (.iconst 4, 1) := by decide +kernel
theorem dX12_init_97 : decode cX12_init 97 = .ok (.iastore, 1) := by decide +kernel
theorem dX12_init_98 : decode cX12_init 98 = .ok (.dup, 1) := by decide +kernel
theorem dX12_init_99 : decode cX12_init 99 = .ok (.bipush 17, 2) := by decide +kernel
theorem dX12_init_101 : decode cX12_init 101 = .ok (.iconst 0, 1) := by decide +kernel
theorem dX12_init_102 : decode cX12_init 102 = .ok (.iastore, 1) := by decide +kernel
theorem dX12_init_103 : decode cX12_init 103 = .ok (.dup, 1) := by decide +kernel
theorem dX12_init_104 : decode cX12_init 104 = .ok (.bipush 18, 2) := by decide +kernel
theorem dX12_init_106 : decode cX12_init 106 = .ok (.iconst 0, 1) := by decide +kernel
theorem dX12_init_107 : decode cX12_init 107 = .ok (.iastore, 1) := by decide +kernel
theorem dX12_init_108 : decode cX12_init 108 = .ok (.dup, 1) := by decide +kernel
theorem dX12_init_109 : decode cX12_init 109 = .ok (.bipush 19, 2) := by decide +kernel
theorem dX12_init_111 : decode cX12_init 111 = .ok (.iconst 0, 1) := by decide +kernel
theorem dX12_init_112 : decode cX12_init 112 = .ok (.iastore, 1) := by decide +kernel
theorem dX12_init_113 : decode cX12_init 113 = .ok (.dup, 1) := by decide +kernel
theorem dX12_init_114 : decode cX12_init 114 = .ok (.bipush 20, 2) := by decide +kernel
theorem dX12_init_116 : decode cX12_init 116 = .ok (.iconst 0, 1) := by decide +kernel
theorem dX12_init_117 : decode cX12_init 117 = .ok (.iastore, 1) := by decide +kernel
theorem dX12_init_118 : decode cX12_init 118 = .ok (.dup, 1) := by decide +kernel
theorem dX12_init_119 : decode cX12_init 119 = .ok (.bipush 21, 2) := by decide +kernel
theorem dX12_init_121 : decode cX12_init 121 = .ok (.iconst 0, 1) := by decide +kernel
theorem dX12_init_122 : decode cX12_init 122 = .ok (.iastore, 1) := by decide +kernel
theorem dX12_init_123 : decode cX12_init 123 = .ok (.dup, 1) := by decide +kernel
theorem dX12_init_124 : decode cX12_init 124 = .ok (.bipush 22, 2) := by decide +kernel
theorem dX12_init_126 : decode cX12_init 126 = .ok (.iconst 0, 1) := by decide +kernel
theorem dX12_init_127 : decode cX12_init 127 = .ok (.iastore, 1) := by decide +kernel
theorem dX12_init_128 : decode cX12_init 128 = .ok (.dup, 1) := by decide +kernel
theorem dX12_init_129 : decode cX12_init 129 = .ok (.bipush 23, 2) := by decide +kernel
theorem dX12_init_131 : decode cX12_init 131 = .ok (.iconst 0, 1) := by decide +kernel
theorem dX12_init_132 : decode cX12_init 132 = .ok (.iastore, 1) := by decide +kernel
theorem dX12_init_133 : decode cX12_init 133 = .ok (.dup, 1) := by decide +kernel
theorem dX12_init_134 : decode cX12_init 134 = .ok (.bipush 24, 2) := by decide +kernel
theorem dX12_init_136 : decode cX12_init 136 = .ok (.iconst 1, 1) := by decide +kernel
theorem dX12_init_137 : decode cX12_init 137 = .ok (.iastore, 1) := by decide +kernel
theorem dX12_init_138 : decode cX12_init 138 = .ok (.dup, 1) := by decide +kernel
theorem dX12_init_139 : decode cX12_init 139 = .ok (.bipush 25, 2) := by decide +kernel
theorem dX12_init_141 : decode cX12_init 141 = .ok (.bipush 100, 2) := by decide +kernel
theorem dX12_init_143 : decode cX12_init 143 = .ok (.iastore, 1) := by decide +kernel
theorem dX12_init_144 : decode cX12_init 144 = .ok (.dup, 1) := by decide +kernel
theorem dX12_init_145 : decode cX12_init 145 = .ok (.bipush 26, 2) := by decide +kernel
theorem dX12_init_147 : decode cX12_init 147 = .ok (.iconst 0, 1) := by decide +kernel
theorem dX12_init_148 : decode cX12_init 148 = .ok (.iastore, 1) := by decide +kernel
theorem dX12_init_149 : decode cX12_init 149 = .ok (.dup, 1) := by decide +kernel
theorem dX12_init_150 : decode cX12_init 150 = .ok (.bipush 27, 2) := by decide +kernel
theorem dX12_init_152 : decode cX12_init 152 = .ok (.iconst 0, 1) := by decide +kernel
theorem dX12_init_153 : decode cX12_init 153 = .ok (.iastore, 1) := by decide +kernel
theorem dX12_init_154 : decode cX12_init 154 = .ok (.dup, 1) := by decide +kernel
theorem dX12_init_155 : decode cX12_init 155 = .ok (.bipush 28, 2) := by decide +kernel
theorem dX12_init_157 : decode cX12_init 157 = .ok (.iconst 0, 1) := by decide +kernel
theorem dX12_init_158 : decode cX12_init 158 = .ok (.iastore, 1) := by decide +kernel
theorem dX12_init_159 : decode cX12_init 159 = .ok (.dup, 1) := by decide +kernel
theorem dX12_init_160 : decode cX12_init 160 = .ok (.bipush 29, 2) := by decide +kernel
theorem dX12_init_162 : decode cX12_init 162 = .ok (.iconst 0, 1) := by decide +kernel
theorem dX12_init_163 : decode cX12_init 163 = .ok (.iastore, 1) := by decide +kernel
theorem dX12_init_164 : decode cX12_init 164 = .ok (.putfield 13, 3) := by decide +kernel
theorem dX12_init_167 : decode cX12_init 167 = .ok (.aload_n 0, 1) := by decide +kernel
theorem dX12_init_168 : decode cX12_init 168 = .ok (.sipush 128, 3) := by decide +kernel
theorem dX12_init_171 : decode cX12_init 171 = .ok (.newarray .boolean, 2) := by decide +kernel
theorem dX12_init_173 : decode cX12_init 173 = .ok (.putfield 16, 3) := by decide +kernel
theorem dX12_init_176 : decode cX12_init 176 = .ok (.aload_n 0, 1) := by decide +kernel
theorem dX12_init_177 : decode cX12_init 177 = .ok (.bipush 6, 2) := by decide +kernel
theorem dX12_init_179 : decode cX12_init 179 = .ok (.newarray .int, 2) := by decide +kernel
theorem dX12_init_181 : decode cX12_init 181 = .ok (.putfield 20, 3) := by decide +kernel
theorem dX12_init_184 : decode cX12_init 184 = .ok (.aload_n 0, 1) := by decide +kernel
theorem dX12_init_185 : decode cX12_init 185 = .ok (.bipush 6, 2) := by decide +kernel
theorem dX12_init_187 : decode cX12_init 187 = .ok (.newarray .int, 2) := by decide +kernel
theorem dX12_init_189 : decode cX12_init 189 = .ok (.putfield 23, 3) := by decide +kernel
theorem dX12_init_192 : decode cX12_init 192 = .ok (.aload_n 0, 1) := by decide +kernel
theorem dX12_init_193 : decode cX12_init 193 = .ok (.bipush 6, 2) := by decide +kernel
theorem dX12_init_195 : decode cX12_init 195 = .ok (.newarray .int, 2) := by decide +kernel
theorem dX12_init_197 : decode cX12_init 197 = .ok (.putfield 26, 3) := by decide +kernel
theorem dX12_init_200 : decode cX12_init 200 = .ok (.aload_n 0, 1) := by decide +kernel
theorem dX12_init_201 : decode cX12_init 201 = .ok (.bipush 6, 2) := by decide +kernel
theorem dX12_init_203 : decode cX12_init 203 = .ok (.newarray .int, 2) := by decide +kernel
theorem dX12_init_205 : decode cX12_init 205 = .ok (.putfield 29, 3) := by decide +kernel
theorem dX12_init_208 : decode cX12_init 208 = .ok (.aload_n 0, 1) := by decide +kernel
theorem dX12_init_209 : decode cX12_init 209 = .ok (.bipush 16, 2) := by decide +kernel
theorem dX12_init_211 : decode cX12_init 211 = .ok (.newarray .int, 2) := by decide +kernel
theorem dX12_init_213 : decode cX12_init 213 = .ok (.putfield 32, 3) := by decide +kernel
theorem dX12_init_216 : decode cX12_init 216 = .ok (.aload_n 0, 1) := by decide +kernel
theorem dX12_init_217 : decode cX12_init 217 = .ok (.bipush 8, 2) := by decide +kernel
theorem dX12_init_219 : decode cX12_init 219 = .ok (.newarray .int, 2) := by decide +kernel
theorem dX12_init_221 : decode cX12_init 221 = .ok (.putfield 35, 3) := by decide +kernel
theorem dX12_init_224 : decode cX12_init 224 = .ok (.aload_n 0, 1) := by decide +kernel
theorem dX12_init_225 : decode cX12_init 225 = .ok (.bipush 8, 2) := by decide +kernel
theorem dX12_init_227 : decode cX12_init 227 = .ok (.newarray .int, 2) := by decide +kernel
theorem dX12_init_229 : decode cX12_init 229 = .ok (.putfield 38, 3) := by decide +kernel
theorem dX12_init_232 : decode cX12_init 232 = .ok (.aload_n 0, 1) := by decide +kernel
theorem dX12_init_233 : decode cX12_init 233 = .ok (.bipush 8, 2) := by decide +kernel
theorem dX12_init_235 : decode cX12_init 235 = .ok (.newarray .int, 2) := by decide +kernel
theorem dX12_init_237 : decode cX12_init 237 = .ok (.putfield 41, 3) := by decide +kernel
theorem dX12_init_240 : decode cX12_init 240 = .ok (.aload_n 0, 1) := by decide +kernel
theorem dX12_init_241 : decode cX12_init 241 = .ok (.bipush 18, 2) := by decide +kernel
theorem dX12_init_243 : decode cX12_init 243 = .ok (.newarray .int, 2) := by decide +kernel
theorem dX12_init_245 : decode cX12_init 245 = .ok (.putfield 44, 3) := by decide +kernel
theorem dX12_init_248 : decode cX12_init 248 = .ok (.aload_n 0, 1) := by decide +kernel
theorem dX12_init_249 : decode cX12_init 249 = .ok (.bipush 18, 2) := by decide +kernel
theorem dX12_init_251 : decode cX12_init 251 = .ok (.newarray .int, 2) := by decide +kernel
theorem dX12_init_253 : decode cX12_init 253 = .ok (.putfield 47, 3) := by decide +kernel
theorem dX12_init_256 : decode cX12_init 256 = .ok (.aload_n 0, 1) := by decide +kernel
theorem dX12_init_257 : decode cX12_init 257 = .ok (.bipush 18, 2) := by decide +kernel
theorem dX12_init_259 : decode cX12_init 259 = .ok (.newarray .int, 2) := by decide +kernel
theorem dX12_init_261 : decode cX12_init 261 = .ok (.putfield 50, 3) := by decide +kernel
theorem dX12_init_264 : decode cX12_init 264 = .ok (.aload_n 0, 1) := by decide +kernel
theorem dX12_init_265 : decode cX12_init 265 = .ok (.bipush 18, 2) := by decide +kernel
theorem dX12_init_267 : decode cX12_init 267 = .ok (.newarray .int, 2) := by decide +kernel
theorem dX12_init_269 : decode cX12_init 269 = .ok (.putfield 53, 3) := by decide +kernel
theorem dX12_init_272 : decode cX12_init 272 = .ok (.aload_n 0, 1) := by decide +kernel
theorem dX12_init_273 : decode cX12_init 273 = .ok (.bipush 18, 2) := by decide +kernel
theorem dX12_init_275 : decode cX12_init 275 = .ok (.newarray .int, 2) := by decide +kernel
theorem dX12_init_277 : decode cX12_init 277 = .ok (.putfield 56, 3) := by decide +kernel
theorem dX12_init_280 : decode cX12_init 280 = .ok (.aload_n 0, 1) := by decide +kernel
theorem dX12_init_281 : decode cX12_init 281 = .ok (.bipush 18, 2) := by decide +kernel
theorem dX12_init_283 : decode cX12_init 283 = .ok (.newarray .int, 2) := by decide +kernel
theorem dX12_init_285 : decode cX12_init 285 = .ok (.putfield 59, 3) := by decide +kernel
theorem dX12_init_288 : decode cX12_init 288 = .ok (.aload_n 0, 1) := by decide +kernel
theorem dX12_init_289 : decode cX12_init 289 = .ok (.bipush 18, 2) := by decide +kernel
theorem dX12_init_291 : decode cX12_init 291 = .ok (.newarray .int, 2) := by decide +kernel
theorem dX12_init_293 : decode cX12_init 293 = .ok (.putfield 62, 3) := by decide +kernel
theorem dX12_init_296 : decode cX12_init 296 = .ok (.aload_n 0, 1) := by decide +kernel
theorem dX12_init_297 : decode cX12_init 297 = .ok (.bipush 18, 2) := by decide +kernel
theorem dX12_init_299 : decode cX12_init 299 = .ok (.newarray .int, 2) := by decide +kernel
theorem dX12_init_301 : decode cX12_init 301 = .ok (.putfield 65, 3) := by decide +kernel
theorem dX12_init_304 : decode cX12_init 304 = .ok (.aload_n 0, 1) := by decide +kernel
theorem dX12_init_305 : decode cX12_init 305 = .ok (.bipush 18, 2) := by decide +kernel
theorem dX12_init_307 : decode cX12_init 307 = .ok (.newarray .int, 2) := by decide +kernel
theorem dX12_init_309 : decode cX12_init 309 = .ok (.putfield 68, 3) := by decide +kernel
theorem dX12_init_312 : decode cX12_init 312 = .ok (.aload_n 0, 1) := by decide +kernel
theorem dX12_init_313 : decode cX12_init 313 = .ok (.bipush 18, 2) := by decide +kernel
theorem dX12_init_315 : decode cX12_init 315 = .ok (.newarray .int, 2) := by decide +kernel
theorem dX12_init_317 : decode cX12_init 317 = .ok (.putfield 71, 3) := by decide +kernel
theorem dX12_init_320 : decode cX12_init 320 = .ok (.aload_n 0, 1) := by decide +kernel
theorem dX12_init_321 : decode cX12_init 321 = .ok (.sipush 128, 3) := by decide +kernel
theorem dX12_init_324 : decode cX12_init 324 = .ok (.newarray .int, 2) := by decide +kernel
theorem dX12_init_326 : decode cX12_init 326 = .ok (.putfield 74, 3) := by decide +kernel
theorem dX12_init_329 : decode cX12_init 329 = .ok (.aload_n 0, 1) := by decide +kernel
theorem dX12_init_330 : decode cX12_init 330 = .ok (.sipush 128, 3) := by decide +kernel
theorem dX12_init_333 : decode cX12_init 333 = .ok (.newarray .int, 2) := by decide +kernel
theorem dX12_init_335 : decode cX12_init 335 = .ok (.putfield 77, 3) := by decide +kernel
theorem dX12_init_338 : decode cX12_init 338 = .ok (.aload_n 0, 1) := by decide +kernel
theorem dX12_init_339 : decode cX12_init 339 = .ok (.iconst (-1), 1) := by decide +kernel
theorem dX12_init_340 : decode cX12_init 340 = .ok (.putfield 80, 3) := by decide +kernel
theorem dX12_init_343 : decode cX12_init 343 = .ok (.aload_n 0, 1) := by decide +kernel
theorem dX12_init_344 : decode cX12_init 344 = .ok (.sipush 4096, 3) := by decide +kernel
theorem dX12_init_347 : decode cX12_init 347 = .ok (.newarray .int, 2) := by decide +kernel
theorem dX12_init_349 : decode cX12_init 349 = .ok (.putfield 84, 3) := by decide +kernel
theorem dX12_init_352 : decode cX12_init 352 = .ok (.aload_n 0, 1) := by decide +kernel
theorem dX12_init_353 : decode cX12_init 353 = .ok (.bipush 23, 2) := by decide +kernel
theorem dX12_init_355 : decode cX12_init 355 = .ok (.newarray .int, 2) := by decide +kernel
theorem dX12_init_357 : decode cX12_init 357 = .ok (.putfield 87, 3) := by decide +kernel
theorem dX12_init_360 : decode cX12_init 360 = .ok (.aload_n 0, 1) := by decide +kernel
theorem dX12_init_361 : decode cX12_init 361 = .ok (.bipush 23, 2) := by decide +kernel
theorem dX12_init_363 : decode cX12_init 363 = .ok (.newarray .int, 2) := by decide +kernel
theorem dX12_init_365 : decode cX12_init 365 = .ok (.putfield 90, 3) := by decide +kernel
theorem dX12_init_368 : decode cX12_init 368 = .ok (.aload_n 0, 1) := by decide +kernel
theorem dX12_init_369 : decode cX12_init 369 = .ok (.bipush 23, 2) := by decide +kernel
theorem dX12_init_371 : decode cX12_init 371 = .ok (.newarray .int, 2) := by decide +kernel
theorem dX12_init_373 : decode cX12_init 373 = .ok (.putfield 93, 3) := by decide +kernel
theorem dX12_init_376 : decode cX12_init 376 = .ok (.aload_n 0, 1) := by decide +kernel
theorem dX12_init_377 : decode cX12_init 377 = .ok (.bipush 23, 2) := by decide +kernel
theorem dX12_init_379 : decode cX12_init 379 = .ok (.newarray .int, 2) := by decide +kernel
theorem dX12_init_381 : decode cX12_init 381 = .ok (.putfield 96, 3) := by decide +kernel
theorem dX12_init_384 : decode cX12_init 384 = .ok (.aload_n 0, 1) := by decide +kernel
theorem dX12_init_385 : decode cX12_init 385 = .ok (.bipush 23, 2) := by decide +kernel
theorem dX12_init_387 : decode cX12_init 387 = .ok (.newarray .int, 2) := by decide +kernel
theorem dX12_init_389 : decode cX12_init 389 = .ok (.putfield 99, 3) := by decide +kernel
theorem dX12_init_392 : decode cX12_init 392 = .ok (.aload_n 0, 1) := by decide +kernel
theorem dX12_init_393 : decode cX12_init 393 = .ok (.bipush 23, 2) := by decide +kernel
theorem dX12_init_395 : decode cX12_init 395 = .ok (.newarray .int, 2) := by decide +kernel
theorem dX12_init_397 : decode cX12_init 397 = .ok (.putfield 102, 3) := by decide +kernel
theorem dX12_init_400 : decode cX12_init 400 = .ok (.aload_n 0, 1) := by decide +kernel
theorem dX12_init_401 : decode cX12_init 401 = .ok (.bipush 23, 2) := by decide +kernel
theorem dX12_init_403 : decode cX12_init 403 = .ok (.newarray .int, 2) := by decide +kernel
theorem dX12_init_405 : decode cX12_init 405 = .ok (.putfield 105, 3) := by decide +kernel
theorem dX12_init_408 : decode cX12_init 408 = .ok (.aload_n 0, 1) := by decide +kernel
theorem dX12_init_409 : decode cX12_init 409 = .ok (.sipush 207, 3) := by decide +kernel
theorem dX12_init_412 : decode cX12_init 412 = .ok (.newarray .int, 2) := by decide +kernel
theorem dX12_init_414 : decode cX12_init 414 = .ok (.putfield 108, 3) := by decide +kernel
theorem dX12_init_417 : decode cX12_init 417 = .ok (.aload_n 0, 1) := by decide +kernel
theorem dX12_init_418 : decode cX12_init 418 = .ok (.sipush 207, 3) := by decide +kernel
theorem dX12_init_421 : decode cX12_init 421 = .ok (.newarray .boolean, 2) := by decide +kernel
theorem dX12_init_423 : decode cX12_init 423 = .ok (.putfield 111, 3) := by decide +kernel
theorem dX12_init_426 : decode cX12_init 426 = .ok (.aload_n 0, 1) := by decide +kernel
theorem dX12_init_427 : decode cX12_init 427 = .ok (.sipush 180, 3) := by decide +kernel
theorem dX12_init_430 : decode cX12_init 430 = .ok (.newarray .int, 2) := by decide +kernel
theorem dX12_init_432 : decode cX12_init 432 = .ok (.putfield 114, 3) := by decide +kernel
theorem dX12_init_435 : decode cX12_init 435 = .ok (.aload_n 0, 1) := by decide +kernel
theorem dX12_init_436 : decode cX12_init 436 = .ok (.sipush 180, 3) := by decide +kernel
theorem dX12_init_439 : decode cX12_init 439 = .ok (.newarray .int, 2) := by decide +kernel
theorem dX12_init_441 : decode cX12_init 441 = .ok (.putfield 117, 3) := by decide +kernel
theorem dX12_init_444 : decode cX12_init 444 = .ok (.aload_n 0, 1) := by decide +kernel
theorem dX12_init_445 : decode cX12_init 445 = .ok (.sipush 180, 3) := by decide +kernel
theorem dX12_init_448 : decode cX12_init 448 = .ok (.newarray .int, 2) := by decide +kernel
theorem dX12_init_450 : decode cX12_init 450 = .ok (.putfield 120, 3) := by decide +kernel
theorem dX12_init_453 : decode cX12_init 453 = .ok (.aload_n 0, 1) := by decide +kernel
theorem dX12_init_454 : decode cX12_init 454 = .ok (.sipush 180, 3) := by decide +kernel
theorem dX12_init_457 : decode cX12_init 457 = .ok (.newarray .int, 2) := by decide +kernel
theorem dX12_init_459 : decode cX12_init 459 = .ok (.putfield 123, 3) := by decide +kernel
theorem dX12_init_462 : decode cX12_init 462 = .ok (.aload_n 0, 1) := by decide +kernel
theorem dX12_init_463 : decode cX12_init 463 = .ok (.sipush 180, 3) := by decide +kernel
theorem dX12_init_466 : decode cX12_init 466 = .ok (.newarray .int, 2) := by decide +kernel
theorem dX12_init_468 : decode cX12_init 468 = .ok (.putfield 126, 3) := by decide +kernel
theorem dX12_init_471 : decode cX12_init 471 = .ok (.aload_n 0, 1) := by decide +kernel
theorem dX12_init_472 : decode cX12_init 472 = .ok (.iconst (-1), 1) := by decide +kernel
theorem dX12_init_473 : decode cX12_init 473 = .ok (.putfield 129, 3) := by decide +kernel
theorem dX12_init_476 : decode cX12_init 476 = .ok (.aload_n 0, 1) := by decide +kernel
theorem dX12_init_477 : decode cX12_init 477 = .ok (.iconst (-1), 1) := by decide +kernel
theorem dX12_init_478 : decode cX12_init 478 = .ok (.putfield 132, 3) := by decide +kernel
theorem dX12_init_481 : decode cX12_init 481 = .ok (.aload_n 0, 1) := by decide +kernel
theorem dX12_init_482 : decode cX12_init 482 = .ok (.bipush 7, 2) := by decide +kernel
theorem dX12_init_484 : decode cX12_init 484 = .ok (.newarray .long, 2) := by decide +kernel
theorem dX12_init_486 : decode cX12_init 486 = .ok (.putfield 135, 3) := by decide +kernel
theorem dX12_init_489 : decode cX12_init 489 = .ok (.aload_n 0, 1) := by decide +kernel
theorem dX12_init_490 : decode cX12_init 490 = .ok (.bipush 64, 2) := by decide +kernel
theorem dX12_init_492 : decode cX12_init 492 = .ok (.newarray .long, 2) := by decide +kernel
theorem dX12_init_494 : decode cX12_init 494 = .ok (.putfield 139, 3) := by decide +kernel
theorem dX12_init_497 : decode cX12_init 497 = .ok (.aload_n 0, 1) := by decide +kernel
theorem dX12_init_498 : decode cX12_init 498 = .ok (.bipush 9, 2) := by decide +kernel
theorem dX12_init_500 : decode cX12_init 500 = .ok (.newarray .int, 2) := by decide +kernel
theorem dX12_init_502 : decode cX12_init 502 = .ok (.putfield 142, 3) := by decide +kernel
theorem dX12_init_505 : decode cX12_init 505 = .ok (.aload_n 0, 1) := by decide +kernel
theorem dX12_init_506 : decode cX12_init 506 = .ok (.bipush 9, 2) := by decide +kernel
theorem dX12_init_508 : decode cX12_init 508 = .ok (.newarray .int, 2) := by decide +kernel
theorem dX12_init_510 : decode cX12_init 510 = .ok (.putfield 145, 3) := by decide +kernel
theorem dX12_init_513 : decode cX12_init 513 = .ok (.aload_n 0, 1) := by decide +kernel
theorem dX12_init_514 : decode cX12_init 514 = .ok (.iconst 4, 1) := by decide +kernel
theorem dX12_init_515 : decode cX12_init 515 = .ok (.newarray .int, 2) := by decide +kernel
theorem dX12_init_517 : decode cX12_init 517 = .ok (.putfield 148, 3) := by decide +kernel
theorem dX12_init_520 : decode cX12_init 520 = .ok (.aload_n 0, 1) := by decide +kernel
theorem dX12_init_521 : decode cX12_init 521 = .ok (.iconst 3, 1) := by decide +kernel
theorem dX12_init_522 : decode cX12_init 522 = .ok (.newarray .int, 2) := by decide +kernel
theorem dX12_init_524 : decode cX12_init 524 = .ok (.putfield 151, 3) := by decide +kernel
theorem dX12_init_527 : decode cX12_init 527 = .ok (.aload_n 0, 1) := by decide +kernel
theorem dX12_init_528 : decode cX12_init 528 = .ok (.iconst 3, 1) := by decide +kernel
theorem dX12_init_529 : decode cX12_init 529 = .ok (.newarray .int, 2) := by decide +kernel
theorem dX12_init_531 : decode cX12_init 531 = .ok (.putfield 154, 3) := by decide +kernel
theorem dX12_init_534 : decode cX12_init 534 = .ok (.aload_n 0, 1) := by decide +kernel
theorem dX12_init_535 : decode cX12_init 535 = .ok (.iconst 3, 1) := by decide +kernel
theorem dX12_init_536 : decode cX12_init 536 = .ok (.newarray .int, 2) := by decide +kernel
theorem dX12_init_538 : decode cX12_init 538 = .ok (.putfield 157, 3) := by decide +kernel
theorem dX12_init_541 : decode cX12_init 541 = .ok (.aload_n 0, 1) := by decide +kernel
theorem dX12_init_542 : decode cX12_init 542 = .ok (.iconst 3, 1) := by decide +kernel
theorem dX12_init_543 : decode cX12_init 543 = .ok (.newarray .int, 2) := by decide +kernel
theorem dX12_init_545 : decode cX12_init 545 = .ok (.putfield 160, 3) := by decide +kernel
theorem dX12_init_548 : decode cX12_init 548 = .ok (.aload_n 0, 1) := by decide +kernel
theorem dX12_init_549 : decode cX12_init 549 = .ok (.iconst 3, 1) := by decide +kernel
theorem dX12_init_550 : decode cX12_init 550 = .ok (.newarray .int, 2) := by decide +kernel
theorem dX12_init_552 : decode cX12_init 552 = .ok (.putfield 163, 3) := by decide +kernel
theorem dX12_init_555 : decode cX12_init 555 = .ok (.aload_n 0, 1) := by decide +kernel
theorem dX12_init_556 : decode cX12_init 556 = .ok (.bipush 27, 2) := by decide +kernel
theorem dX12_init_558 : decode cX12_init 558 = .ok (.newarray .int, 2) := by decide +kernel
theorem dX12_init_560 : decode cX12_init 560 = .ok (.putfield 166, 3) := by decide +kernel
theorem dX12_init_563 : decode cX12_init 563 = .ok (.aload_n 0, 1) := by decide +kernel
theorem dX12_init_564 : decode cX12_init 564 = .ok (.bipush 27, 2) := by decide +kernel
theorem dX12_init_566 : decode cX12_init 566 = .ok (.newarray .boolean, 2) := by decide +kernel
theorem dX12_init_568 : decode cX12_init 568 = .ok (.putfield 169, 3) := by decide +kernel
theorem dX12_init_571 : decode cX12_init 571 = .ok (.aload_n 0, 1) := by decide +kernel
theorem dX12_init_572 : decode cX12_init 572 = .ok (.iconst (-1), 1) := by decide +kernel
theorem dX12_init_573 : decode cX12_init 573 = .ok (.putfield 172, 3) := by decide +kernel
theorem dX12_init_576 : decode cX12_init 576 = .ok (.aload_n 0, 1) := by decide +kernel
theorem dX12_init_577 : decode cX12_init 577 = .ok (.bipush 32, 2) := by decide +kernel
theorem dX12_init_579 : decode cX12_init 579 = .ok (.newarray .int, 2) := by decide +kernel
theorem dX12_init_581 : decode cX12_init 581 = .ok (.putfield 175, 3) := by decide +kernel
theorem dX12_init_584 : decode cX12_init 584 = .ok (.aload_n 0, 1) := by decide +kernel
theorem dX12_init_585 : decode cX12_init 585 = .ok (.bipush 32, 2) := by decide +kernel
theorem dX12_init_587 : decode cX12_init 587 = .ok (.newarray .int, 2) := by decide +kernel
theorem dX12_init_589 : decode cX12_init 589 = .ok (.putfield 178, 3) := by decide +kernel
theorem dX12_init_592 : decode cX12_init 592 = .ok (.aload_n 0, 1) := by decide +kernel
theorem dX12_init_593 : decode cX12_init 593 = .ok (.bipush 32, 2) := by decide +kernel
theorem dX12_init_595 : decode cX12_init 595 = .ok (.newarray .int, 2) := by decide +kernel
theorem dX12_init_597 : decode cX12_init 597 = .ok (.putfield 181, 3) := by decide +kernel
theorem dX12_init_600 : decode cX12_init 600 = .ok (.aload_n 0, 1) := by decide +kernel
theorem dX12_init_601 : decode cX12_init 601 = .ok (.bipush 32, 2) := by decide +kernel
theorem dX12_init_603 : decode cX12_init 603 = .ok (.newarray .boolean, 2) := by decide +kernel
theorem dX12_init_605 : decode cX12_init 605 = .ok (.putfield 184, 3) := by decide +kernel
theorem dX12_init_608 : decode cX12_init 608 = .ok (.aload_n 0, 1) := by decide +kernel
theorem dX12_init_609 : decode cX12_init 609 = .ok (.invokevirtual 187, 3) := by decide +kernel
theorem dX12_init_612 : decode cX12_init 612 = .ok (.aload_n 0, 1) := by decide +kernel
theorem dX12_init_613 : decode cX12_init 613 = .ok (.iconst 0, 1) := by decide +kernel
theorem dX12_init_614 : decode cX12_init 614 = .ok (.invokevirtual 190, 3) := by decide +kernel
theorem dX12_init_617 : decode cX12_init 617 = .ok (.return_, 1) := by decide +kernel
noncomputable def b_X12_init_u_0 (rec : Rk) (h : Hp) : Option (Int × Hp) :=
  ckp (blk h 60 0) <|
  lt (alA h 60 0) fun h1 =>
  lt (sR h1 12 0 1 (some (60, 0))) fun h2 =>
  ckp (blk h2 61 0) <|
  lt (alA h2 61 0) fun h3 =>
  ck (0 ≤ (0 : Int) ∧ (0 : Int) < 30) <|
  lt (sI h3 61 0 0 4) fun h4 =>
  ck (0 ≤ (1 : Int) ∧ (1 : Int) < 30) <|
  lt (sI h4 61 0 1 4) fun h5 =>
  ck (0 ≤ (2 : Int) ∧ (2 : Int) < 30) <|
  lt (sI h5 61 0 2 0) fun h6 =>
  ck (0 ≤ (3 : Int) ∧ (3 : Int) < 30) <|
  lt (sI h6 61 0 3 0) fun h7 =>
  ck (0 ≤ (4 : Int) ∧ (4 : Int) < 30) <|
  lt (sI h7 61 0 4 0) fun h8 =>
  ck (0 ≤ (5 : Int) ∧ (5 : Int) < 30) <|
  lt (sI h8 61 0 5 0) fun h9 =>
  ck (0 ≤ (6 : Int) ∧ (6 : Int) < 30) <|
  lt (sI h9 61 0 6 0) fun h10 =>
  ck (0 ≤ (7 : Int) ∧ (7 : Int) < 30) <|
  lt (sI h10 61 0 7 0) fun h11 =>
  ck (0 ≤ (8 : Int) ∧ (8 : Int) < 30) <|
  lt (sI h11 61 0 8 0) fun h12 =>
  ck (0 ≤ (9 : Int) ∧ (9 : Int) < 30) <|
  lt (sI h12 61 0 9 1) fun h13 =>
  ck (0 ≤ (10 : Int) ∧ (10 : Int) < 30) <|
  lt (sI h13 61 0 10 100) fun h14 =>
  ck (0 ≤ (11 : Int) ∧ (11 : Int) < 30) <|
  lt (sI h14 61 0 11 0) fun h15 =>
  ck (0 ≤ (12 : Int) ∧ (12 : Int) < 30) <|
  lt (sI h15 61 0 12 0) fun h16 =>
  ck (0 ≤ (13 : Int) ∧ (13 : Int) < 30) <|
  lt (sI h16 61 0 13 0) fun h17 =>
  ck (0 ≤ (14 : Int) ∧ (14 : Int) < 30) <|
  lt (sI h17 61 0 14 0) fun h18 =>
  ck (0 ≤ (15 : Int) ∧ (15 : Int) < 30) <|
  lt (sI h18 61 0 15 4) fun h19 =>
  ck (0 ≤ (16 : Int) ∧ (16 : Int) < 30) <|
  lt (sI h19 61 0 16 4) fun h20 =>
  ck (0 ≤ (17 : Int) ∧ (17 : Int) < 30) <|
  lt (sI h20 61 0 17 0) fun h21 =>
  ck (0 ≤ (18 : Int) ∧ (18 : Int) < 30) <|
  lt (sI h21 61 0 18 0) fun h22 =>
  ck (0 ≤ (19 : Int) ∧ (19 : Int) < 30) <|
  lt (sI h22 61 0 19 0) fun h23 =>
  ck (0 ≤ (20 : Int) ∧ (20 : Int) < 30) <|
  lt (sI h23 61 0 20 0) fun h24 =>
  ck (0 ≤ (21 : Int) ∧ (21 : Int) < 30) <|
  lt (sI h24 61 0 21 0) fun h25 =>
  ck (0 ≤ (22 : Int) ∧ (22 : Int) < 30) <|
  lt (sI h25 61 0 22 0) fun h26 =>
  ck (0 ≤ (23 : Int) ∧ (23 : Int) < 30) <|
  lt (sI h26 61 0 23 0) fun h27 =>
  ck (0 ≤ (24 : Int) ∧ (24 : Int) < 30) <|
  lt (sI h27 61 0 24 1) fun h28 =>
  ck (0 ≤ (25 : Int) ∧ (25 : Int) < 30) <|
  lt (sI h28 61 0 25 100) fun h29 =>
  ck (0 ≤ (26 : Int) ∧ (26 : Int) < 30) <|
  lt (sI h29 61 0 26 0) fun h30 =>
  ck (0 ≤ (27 : Int) ∧ (27 : Int) < 30) <|
  lt (sI h30 61 0 27 0) fun h31 =>
  ck (0 ≤ (28 : Int) ∧ (28 : Int) < 30) <|
  lt (sI h31 61 0 28 0) fun h32 =>
  ck (0 ≤ (29 : Int) ∧ (29 : Int) < 30) <|
  lt (sI h32 61 0 29 0) fun h33 =>
  lt (sR h33 12 0 3 (some (61, 0))) fun h34 =>
  ckp (blk h34 62 0) <|
  lt (alA h34 62 0) fun h35 =>
  lt (sR h35 12 0 4 (some (62, 0))) fun h36 =>
  ckp (blk h36 63 0) <|
  lt (alA h36 63 0) fun h37 =>
  lt (sR h37 12 0 5 (some (63, 0))) fun h38 =>
  ckp (blk h38 64 0) <|
  lt (alA h38 64 0) fun h39 =>
  lt (sR h39 12 0 6 (some (64, 0))) fun h40 =>
  ckp (blk h40 65 0) <|
  lt (alA h40 65 0) fun h41 =>
  lt (sR h41 12 0 7 (some (65, 0))) fun h42 =>
  ckp (blk h42 66 0) <|
  lt (alA h42 66 0) fun h43 =>
  lt (sR h43 12 0 8 (some (66, 0))) fun h44 =>
  ckp (blk h44 67 0) <|
  lt (alA h44 67 0) fun h45 =>
  lt (sR h45 12 0 9 (some (67, 0))) fun h46 =>
  ckp (blk h46 68 0) <|
  lt (alA h46 68 0) fun h47 =>
  lt (sR h47 12 0 10 (some (68, 0))) fun h48 =>
  ckp (blk h48 69 0) <|
  lt (alA h48 69 0) fun h49 =>
  lt (sR h49 12 0 11 (some (69, 0))) fun h50 =>
  ckp (blk h50 70 0) <|
  lt (alA h50 70 0) fun h51 =>
  lt (sR h51 12 0 12 (some (70, 0))) fun h52 =>
  ckp (blk h52 71 0) <|
  lt (alA h52 71 0) fun h53 =>
  lt (sR h53 12 0 13 (some (71, 0))) fun h54 =>
  ckp (blk h54 72 0) <|
  lt (alA h54 72 0) fun h55 =>
  lt (sR h55 12 0 14 (some (72, 0))) fun h56 =>
  ckp (blk h56 73 0) <|
  lt (alA h56 73 0) fun h57 =>
  lt (sR h57 12 0 15 (some (73, 0))) fun h58 =>
  ckp (blk h58 74 0) <|
  lt (alA h58 74 0) fun h59 =>
  lt (sR h59 12 0 16 (some (74, 0))) fun h60 =>
  ckp (blk h60 75 0) <|
  lt (alA h60 75 0) fun h61 =>
  lt (sR h61 12 0 17 (some (75, 0))) fun h62 =>
  ckp (blk h62 76 0) <|
  lt (alA h62 76 0) fun h63 =>
  lt (sR h63 12 0 18 (some (76, 0))) fun h64 =>
  ckp (blk h64 77 0) <|
  lt (alA h64 77 0) fun h65 =>
  lt (sR h65 12 0 19 (some (77, 0))) fun h66 =>
  ckp (blk h66 78 0) <|
  lt (alA h66 78 0) fun h67 =>
  lt (sR h67 12 0 20 (some (78, 0))) fun h68 =>
  ckp (blk h68 79 0) <|
  lt (alA h68 79 0) fun h69 =>
  lt (sR h69 12 0 21 (some (79, 0))) fun h70 =>
  ckp (blk h70 80 0) <|
  lt (alA h70 80 0) fun h71 =>
  lt (sR h71 12 0 22 (some (80, 0))) fun h72 =>
  ckp (blk h72 81 0) <|
  lt (alA h72 81 0) fun h73 =>
  lt (sR h73 12 0 23 (some (81, 0))) fun h74 =>
  ckp (blk h74 82 0) <|
  lt (alA h74 82 0) fun h75 =>
  lt (sR h75 12 0 24 (some (82, 0))) fun h76 =>
  lt (sI h76 12 0 35 (-1)) fun h77 =>
  ckp (blk h77 83 0) <|
  lt (alA h77 83 0) fun h78 =>
  lt (sR h78 12 0 38 (some (83, 0))) fun h79 =>
  ckp (blk h79 84 0) <|
  lt (alA h79 84 0) fun h80 =>
  lt (sR h80 12 0 39 (some (84, 0))) fun h81 =>
  ckp (blk h81 85 0) <|
  lt (alA h81 85 0) fun h82 =>
  lt (sR h82 12 0 40 (some (85, 0))) fun h83 =>
  ckp (blk h83 86 0) <|
  lt (alA h83 86 0) fun h84 =>
  lt (sR h84 12 0 41 (some (86, 0))) fun h85 =>
  ckp (blk h85 87 0) <|
  lt (alA h85 87 0) fun h86 =>
  lt (sR h86 12 0 42 (some (87, 0))) fun h87 =>
  ckp (blk h87 88 0) <|
  lt (alA h87 88 0) fun h88 =>
  lt (sR h88 12 0 43 (some (88, 0))) fun h89 =>
  ckp (blk h89 89 0) <|
  lt (alA h89 89 0) fun h90 =>
  lt (sR h90 12 0 44 (some (89, 0))) fun h91 =>
  ckp (blk h91 90 0) <|
  lt (alA h91 90 0) fun h92 =>
  lt (sR h92 12 0 45 (some (90, 0))) fun h93 =>
  ckp (blk h93 91 0) <|
  lt (alA h93 91 0) fun h94 =>
  lt (sR h94 12 0 46 (some (91, 0))) fun h95 =>
  ckp (blk h95 92 0) <|
  lt (alA h95 92 0) fun h96 =>
  lt (sR h96 12 0 47 (some (92, 0))) fun h97 =>
  ckp (blk h97 93 0) <|
  lt (alA h97 93 0) fun h98 =>
  lt (sR h98 12 0 48 (some (93, 0))) fun h99 =>
  ckp (blk h99 94 0) <|
  lt (alA h99 94 0) fun h100 =>
  lt (sR h100 12 0 49 (some (94, 0))) fun h101 =>
  ckp (blk h101 95 0) <|
  lt (alA h101 95 0) fun h102 =>
  lt (sR h102 12 0 50 (some (95, 0))) fun h103 =>
  ckp (blk h103 96 0) <|
  lt (alA h103 96 0) fun h104 =>
  lt (sR h104 12 0 51 (some (96, 0))) fun h105 =>
  ckp (blk h105 97 0) <|
  lt (alA h105 97 0) fun h106 =>
  lt (sR h106 12 0 52 (some (97, 0))) fun h107 =>
  lt (sI h107 12 0 55 (-1)) fun h108 =>
  lt (sI h108 12 0 56 (-1)) fun h109 =>
  ckp (blk h109 98 0) <|
  lt (alA h109 98 0) fun h110 =>
  lt (sR h110 12 0 58 (some (98, 0))) fun h111 =>
  ckp (blk h111 99 0) <|
  lt (alA h111 99 0) fun h112 =>
  lt (sR h112 12 0 59 (some (99, 0))) fun h113 =>
  ckp (blk h113 100 0) <|
  lt (alA h113 100 0) fun h114 =>
  lt (sR h114 12 0 61 (some (100, 0))) fun h115 =>
  ckp (blk h115 101 0) <|
  lt (alA h115 101 0) fun h116 =>
  lt (sR h116 12 0 62 (some (101, 0))) fun h117 =>
  ckp (blk h117 102 0) <|
  lt (alA h117 102 0) fun h118 =>
  lt (sR h118 12 0 63 (some (102, 0))) fun h119 =>
  ckp (blk h119 103 0) <|
  lt (alA h119 103 0) fun h120 =>
  lt (sR h120 12 0 65 (some (103, 0))) fun h121 =>
  ckp (blk h121 104 0) <|
  lt (alA h121 104 0) fun h122 =>
  lt (sR h122 12 0 66 (some (104, 0))) fun h123 =>
  ckp (blk h123 105 0) <|
  lt (alA h123 105 0) fun h124 =>
  lt (sR h124 12 0 69 (some (105, 0))) fun h125 =>
  ckp (blk h125 106 0) <|
  lt (alA h125 106 0) fun h126 =>
  lt (sR h126 12 0 70 (some (106, 0))) fun h127 =>
  ckp (blk h127 107 0) <|
  lt (alA h127 107 0) fun h128 =>
  lt (sR h128 12 0 71 (some (107, 0))) fun h129 =>
  ckp (blk h129 108 0) <|
  lt (alA h129 108 0) fun h130 =>
  lt (sR h130 12 0 72 (some (108, 0))) fun h131 =>
  ckp (blk h131 109 0) <|
  lt (alA h131 109 0) fun h132 =>
  lt (sR h132 12 0 73 (some (109, 0))) fun h133 =>
  lt (sI h133 12 0 75 (-1)) fun h134 =>
  ckp (blk h134 110 0) <|
  lt (alA h134 110 0) fun h135 =>
  lt (sR h135 12 0 76 (some (110, 0))) fun h136 =>
  ckp (blk h136 111 0) <|
  lt (alA h136 111 0) fun h137 =>
  lt (sR h137 12 0 77 (some (111, 0))) fun h138 =>
  ckp (blk h138 112 0) <|
  lt (alA h138 112 0) fun h139 =>
  lt (sR h139 12 0 78 (some (112, 0))) fun h140 =>
  ckp (blk h140 113 0) <|
  lt (alA h140 113 0) fun h141 =>
  lt (sR h141 12 0 79 (some (113, 0))) fun h142 =>
  bd (f_X12_layFar_u h142) fun v143 h144 =>
  bd (f_X12_begins_u 0 h144) fun v145 h146 =>
  some (0, h146)
noncomputable def g_X12_init_u (n : Nat) : Rk := Nat.rec (motive := fun _ => Rk) (fun _ _ _ => none) (fun _ rec k l h => if k = 0 then b_X12_init_u_0 rec  h else none) n
noncomputable def f_X12_init_u (h : Hp) : Option (Int × Hp) := g_X12_init_u FU 0 [] h
set_option maxHeartbeats 4000000 in
set_option maxRecDepth 100000 in
theorem t_X12_init_u_0 (E : xE) (d : Nat) (rec : Rk) (r : Int × Hp) (h : Hp) (hF : b_X12_init_u_0 rec  h = some r) : X E mX12_init (d + 3) (54, 7319) (0, 0) 0 [some (xr 12 0)] [] h (PuV r) := by
  unfold b_X12_init_u_0 at hF
  refine x_aload_n (i := 0) (b := 1) dX12_init_0 rfl rfl rfl ?_
  refine x_objInit (b := 4) dX12_init_1 ki_1492 ki_146 ki_147 (Nat.le_of_ble_eq_true rfl) rfl ?_
  refine x_aload_n (i := 0) (b := 5) dX12_init_4 rfl rfl rfl ?_
  refine x_sipush (n := 800) (b := 8) dX12_init_5 (by decide) rfl ?_
  obtain ⟨hs, hF⟩ := ckp_e hF
  refine x_newa (r := 60) (i := 0) (N := 800) (b := 10) dX12_init_8 ak_60 (by decide) rfl rfl ki_223 rfl rfl (by decide) (fun C h9 => by cases h9) hs ⟨Nat.le_of_ble_eq_true rfl, Nat.le_of_ble_eq_true rfl⟩ rfl ?_
  obtain ⟨h1, e_h1, hF⟩ := lt_e hF
  refine x_hp (h2 := h1) e_h1 ?_
  refine x_u (u2 := (1, 800)) rfl ?_
  refine x_putAF (b := 13) fk_X12_7 dX12_init_10 rfl rfl (fun _ _ _ h9 => by cases h9; rfl) rfl 1 rfl ?_
  obtain ⟨h2, e_h2, hF⟩ := lt_e hF
  refine x_hp (h2 := h2) e_h2 ?_
  refine x_aload_n (i := 0) (b := 14) dX12_init_13 rfl rfl rfl ?_
  refine x_bipush (n := 30) (b := 16) dX12_init_14 (by decide) rfl ?_
  obtain ⟨hs, hF⟩ := ckp_e hF
  refine x_newa (r := 61) (i := 0) (N := 30) (b := 18) dX12_init_16 ak_61 (by decide) rfl rfl ki_223 rfl rfl (by decide) (fun C h9 => by cases h9) hs ⟨Nat.le_of_ble_eq_true rfl, Nat.le_of_ble_eq_true rfl⟩ rfl ?_
  obtain ⟨h3, e_h3, hF⟩ := lt_e hF
  refine x_hp (h2 := h3) e_h3 ?_
  refine x_u (u2 := (2, 830)) rfl ?_
  refine x_dup (b := 19) dX12_init_18 rfl rfl ?_
  refine x_iconst (n := 0) (b := 20) dX12_init_19 (by decide) rfl ?_
  refine x_iconst (n := 4) (b := 21) dX12_init_20 (by decide) rfl ?_
  obtain ⟨hs, hF⟩ := ck_e hF
  have hs1 := hs
  refine x_iast (b := 22) ak_61 dX12_init_21 hs1 rfl ?_
  obtain ⟨h4, e_h4, hF⟩ := lt_e hF
  refine x_hp (h2 := h4) e_h4 ?_
  refine x_dup (b := 23) dX12_init_22 rfl rfl ?_
  refine x_iconst (n := 1) (b := 24) dX12_init_23 (by decide) rfl ?_
  refine x_iconst (n := 4) (b := 25) dX12_init_24 (by decide) rfl ?_
  obtain ⟨hs, hF⟩ := ck_e hF
  have hs1 := hs
  refine x_iast (b := 26) ak_61 dX12_init_25 hs1 rfl ?_
  obtain ⟨h5, e_h5, hF⟩ := lt_e hF
  refine x_hp (h2 := h5) e_h5 ?_
  refine x_dup (b := 27) dX12_init_26 rfl rfl ?_
  refine x_iconst (n := 2) (b := 28) dX12_init_27 (by decide) rfl ?_
  refine x_iconst (n := 0) (b := 29) dX12_init_28 (by decide) rfl ?_
  obtain ⟨hs, hF⟩ := ck_e hF
  have hs1 := hs
  refine x_iast (b := 30) ak_61 dX12_init_29 hs1 rfl ?_
  obtain ⟨h6, e_h6, hF⟩ := lt_e hF
  refine x_hp (h2 := h6) e_h6 ?_
  refine x_dup (b := 31) dX12_init_30 rfl rfl ?_
  refine x_iconst (n := 3) (b := 32) dX12_init_31 (by decide) rfl ?_
  refine x_iconst (n := 0) (b := 33) dX12_init_32 (by decide) rfl ?_
  obtain ⟨hs, hF⟩ := ck_e hF
  have hs1 := hs
  refine x_iast (b := 34) ak_61 dX12_init_33 hs1 rfl ?_
  obtain ⟨h7, e_h7, hF⟩ := lt_e hF
  refine x_hp (h2 := h7) e_h7 ?_
  refine x_dup (b := 35) dX12_init_34 rfl rfl ?_
  refine x_iconst (n := 4) (b := 36) dX12_init_35 (by decide) rfl ?_
  refine x_iconst (n := 0) (b := 37) dX12_init_36 (by decide) rfl ?_
  obtain ⟨hs, hF⟩ := ck_e hF
  have hs1 := hs
  refine x_iast (b := 38) ak_61 dX12_init_37 hs1 rfl ?_
  obtain ⟨h8, e_h8, hF⟩ := lt_e hF
  refine x_hp (h2 := h8) e_h8 ?_
  refine x_dup (b := 39) dX12_init_38 rfl rfl ?_
  refine x_iconst (n := 5) (b := 40) dX12_init_39 (by decide) rfl ?_
  refine x_iconst (n := 0) (b := 41) dX12_init_40 (by decide) rfl ?_
  obtain ⟨hs, hF⟩ := ck_e hF
  have hs1 := hs
  refine x_iast (b := 42) ak_61 dX12_init_41 hs1 rfl ?_
  obtain ⟨h9, e_h9, hF⟩ := lt_e hF
  refine x_hp (h2 := h9) e_h9 ?_
  refine x_dup (b := 43) dX12_init_42 rfl rfl ?_
  refine x_bipush (n := 6) (b := 45) dX12_init_43 (by decide) rfl ?_
  refine x_iconst (n := 0) (b := 46) dX12_init_45 (by decide) rfl ?_
  obtain ⟨hs, hF⟩ := ck_e hF
  have hs1 := hs
  refine x_iast (b := 47) ak_61 dX12_init_46 hs1 rfl ?_
  obtain ⟨h10, e_h10, hF⟩ := lt_e hF
  refine x_hp (h2 := h10) e_h10 ?_
  refine x_dup (b := 48) dX12_init_47 rfl rfl ?_
  refine x_bipush (n := 7) (b := 50) dX12_init_48 (by decide) rfl ?_
  refine x_iconst (n := 0) (b := 51) dX12_init_50 (by decide) rfl ?_
  obtain ⟨hs, hF⟩ := ck_e hF
  have hs1 := hs
  refine x_iast (b := 52) ak_61 dX12_init_51 hs1 rfl ?_
  obtain ⟨h11, e_h11, hF⟩ := lt_e hF
  refine x_hp (h2 := h11) e_h11 ?_
  refine x_dup (b := 53) dX12_init_52 rfl rfl ?_
  refine x_bipush (n := 8) (b := 55) dX12_init_53 (by decide) rfl ?_
  refine x_iconst (n := 0) (b := 56) dX12_init_55 (by decide) rfl ?_
  obtain ⟨hs, hF⟩ := ck_e hF
  have hs1 := hs
  refine x_iast (b := 57) ak_61 dX12_init_56 hs1 rfl ?_
  obtain ⟨h12, e_h12, hF⟩ := lt_e hF
  refine x_hp (h2 := h12) e_h12 ?_
  refine x_dup (b := 58) dX12_init_57 rfl rfl ?_
  refine x_bipush (n := 9) (b := 60) dX12_init_58 (by decide) rfl ?_
  refine x_iconst (n := 1) (b := 61) dX12_init_60 (by decide) rfl ?_
  obtain ⟨hs, hF⟩ := ck_e hF
  have hs1 := hs
  refine x_iast (b := 62) ak_61 dX12_init_61 hs1 rfl ?_
  obtain ⟨h13, e_h13, hF⟩ := lt_e hF
  refine x_hp (h2 := h13) e_h13 ?_
  refine x_dup (b := 63) dX12_init_62 rfl rfl ?_
  refine x_bipush (n := 10) (b := 65) dX12_init_63 (by decide) rfl ?_
  refine x_bipush (n := 100) (b := 67) dX12_init_65 (by decide) rfl ?_
  obtain ⟨hs, hF⟩ := ck_e hF
  have hs1 := hs
  refine x_iast (b := 68) ak_61 dX12_init_67 hs1 rfl ?_
  obtain ⟨h14, e_h14, hF⟩ := lt_e hF
  refine x_hp (h2 := h14) e_h14 ?_
  refine x_dup (b := 69) dX12_init_68 rfl rfl ?_
  refine x_bipush (n := 11) (b := 71) dX12_init_69 (by decide) rfl ?_
  refine x_iconst (n := 0) (b := 72) dX12_init_71 (by decide) rfl ?_
  obtain ⟨hs, hF⟩ := ck_e hF
  have hs1 := hs
  refine x_iast (b := 73) ak_61 dX12_init_72 hs1 rfl ?_
  obtain ⟨h15, e_h15, hF⟩ := lt_e hF
  refine x_hp (h2 := h15) e_h15 ?_
  refine x_dup (b := 74) dX12_init_73 rfl rfl ?_
  refine x_bipush (n := 12) (b := 76) dX12_init_74 (by decide) rfl ?_
  refine x_iconst (n := 0) (b := 77) dX12_init_76 (by decide) rfl ?_
  obtain ⟨hs, hF⟩ := ck_e hF
  have hs1 := hs
  refine x_iast (b := 78) ak_61 dX12_init_77 hs1 rfl ?_
  obtain ⟨h16, e_h16, hF⟩ := lt_e hF
  refine x_hp (h2 := h16) e_h16 ?_
  refine x_dup (b := 79) dX12_init_78 rfl rfl ?_
  refine x_bipush (n := 13) (b := 81) dX12_init_79 (by decide) rfl ?_
  refine x_iconst (n := 0) (b := 82) dX12_init_81 (by decide) rfl ?_
  obtain ⟨hs, hF⟩ := ck_e hF
  have hs1 := hs
  refine x_iast (b := 83) ak_61 dX12_init_82 hs1 rfl ?_
  obtain ⟨h17, e_h17, hF⟩ := lt_e hF
  refine x_hp (h2 := h17) e_h17 ?_
  refine x_dup (b := 84) dX12_init_83 rfl rfl ?_
  refine x_bipush (n := 14) (b := 86) dX12_init_84 (by decide) rfl ?_
  refine x_iconst (n := 0) (b := 87) dX12_init_86 (by decide) rfl ?_
  obtain ⟨hs, hF⟩ := ck_e hF
  have hs1 := hs
  refine x_iast (b := 88) ak_61 dX12_init_87 hs1 rfl ?_
  obtain ⟨h18, e_h18, hF⟩ := lt_e hF
  refine x_hp (h2 := h18) e_h18 ?_
  refine x_dup (b := 89) dX12_init_88 rfl rfl ?_
  refine x_bipush (n := 15) (b := 91) dX12_init_89 (by decide) rfl ?_
  refine x_iconst (n := 4) (b := 92) dX12_init_91 (by decide) rfl ?_
  obtain ⟨hs, hF⟩ := ck_e hF
  have hs1 := hs
  refine x_iast (b := 93) ak_61 dX12_init_92 hs1 rfl ?_
  obtain ⟨h19, e_h19, hF⟩ := lt_e hF
  refine x_hp (h2 := h19) e_h19 ?_
  refine x_dup (b := 94) dX12_init_93 rfl rfl ?_
  refine x_bipush (n := 16) (b := 96) dX12_init_94 (by decide) rfl ?_
  refine x_iconst (n := 4) (b := 97) dX12_init_96 (by decide) rfl ?_
  obtain ⟨hs, hF⟩ := ck_e hF
  have hs1 := hs
  refine x_iast (b := 98) ak_61 dX12_init_97 hs1 rfl ?_
  obtain ⟨h20, e_h20, hF⟩ := lt_e hF
  refine x_hp (h2 := h20) e_h20 ?_
  refine x_dup (b := 99) dX12_init_98 rfl rfl ?_
  refine x_bipush (n := 17) (b := 101) dX12_init_99 (by decide) rfl ?_
  refine x_iconst (n := 0) (b := 102) dX12_init_101 (by decide) rfl ?_
  obtain ⟨hs, hF⟩ := ck_e hF
  have hs1 := hs
  refine x_iast (b := 103) ak_61 dX12_init_102 hs1 rfl ?_
  obtain ⟨h21, e_h21, hF⟩ := lt_e hF
  refine x_hp (h2 := h21) e_h21 ?_
  refine x_dup (b := 104) dX12_init_103 rfl rfl ?_
  refine x_bipush (n := 18) (b := 106) dX12_init_104 (by decide) rfl ?_
  refine x_iconst (n := 0) (b := 107) dX12_init_106 (by decide) rfl ?_
  obtain ⟨hs, hF⟩ := ck_e hF
  have hs1 := hs
  refine x_iast (b := 108) ak_61 dX12_init_107 hs1 rfl ?_
  obtain ⟨h22, e_h22, hF⟩ := lt_e hF
  refine x_hp (h2 := h22) e_h22 ?_
  refine x_dup (b := 109) dX12_init_108 rfl rfl ?_
  refine x_bipush (n := 19) (b := 111) dX12_init_109 (by decide) rfl ?_
  refine x_iconst (n := 0) (b := 112) dX12_init_111 (by decide) rfl ?_
  obtain ⟨hs, hF⟩ := ck_e hF
  have hs1 := hs
  refine x_iast (b := 113) ak_61 dX12_init_112 hs1 rfl ?_
  obtain ⟨h23, e_h23, hF⟩ := lt_e hF
  refine x_hp (h2 := h23) e_h23 ?_
  refine x_dup (b := 114) dX12_init_113 rfl rfl ?_
  refine x_bipush (n := 20) (b := 116) dX12_init_114 (by decide) rfl ?_
  refine x_iconst (n := 0) (b := 117) dX12_init_116 (by decide) rfl ?_
  obtain ⟨hs, hF⟩ := ck_e hF
  have hs1 := hs
  refine x_iast (b := 118) ak_61 dX12_init_117 hs1 rfl ?_
  obtain ⟨h24, e_h24, hF⟩ := lt_e hF
  refine x_hp (h2 := h24) e_h24 ?_
  refine x_dup (b := 119) dX12_init_118 rfl rfl ?_
  refine x_bipush (n := 21) (b := 121) dX12_init_119 (by decide) rfl ?_
  refine x_iconst (n := 0) (b := 122) dX12_init_121 (by decide) rfl ?_
  obtain ⟨hs, hF⟩ := ck_e hF
  have hs1 := hs
  refine x_iast (b := 123) ak_61 dX12_init_122 hs1 rfl ?_
  obtain ⟨h25, e_h25, hF⟩ := lt_e hF
  refine x_hp (h2 := h25) e_h25 ?_
  refine x_dup (b := 124) dX12_init_123 rfl rfl ?_
  refine x_bipush (n := 22) (b := 126) dX12_init_124 (by decide) rfl ?_
  refine x_iconst (n := 0) (b := 127) dX12_init_126 (by decide) rfl ?_
  obtain ⟨hs, hF⟩ := ck_e hF
  have hs1 := hs
  refine x_iast (b := 128) ak_61 dX12_init_127 hs1 rfl ?_
  obtain ⟨h26, e_h26, hF⟩ := lt_e hF
  refine x_hp (h2 := h26) e_h26 ?_
  refine x_dup (b := 129) dX12_init_128 rfl rfl ?_
  refine x_bipush (n := 23) (b := 131) dX12_init_129 (by decide) rfl ?_
  refine x_iconst (n := 0) (b := 132) dX12_init_131 (by decide) rfl ?_
  obtain ⟨hs, hF⟩ := ck_e hF
  have hs1 := hs
  refine x_iast (b := 133) ak_61 dX12_init_132 hs1 rfl ?_
  obtain ⟨h27, e_h27, hF⟩ := lt_e hF
  refine x_hp (h2 := h27) e_h27 ?_
  refine x_dup (b := 134) dX12_init_133 rfl rfl ?_
  refine x_bipush (n := 24) (b := 136) dX12_init_134 (by decide) rfl ?_
  refine x_iconst (n := 1) (b := 137) dX12_init_136 (by decide) rfl ?_
  obtain ⟨hs, hF⟩ := ck_e hF
  have hs1 := hs
  refine x_iast (b := 138) ak_61 dX12_init_137 hs1 rfl ?_
  obtain ⟨h28, e_h28, hF⟩ := lt_e hF
  refine x_hp (h2 := h28) e_h28 ?_
  refine x_dup (b := 139) dX12_init_138 rfl rfl ?_
  refine x_bipush (n := 25) (b := 141) dX12_init_139 (by decide) rfl ?_
  refine x_bipush (n := 100) (b := 143) dX12_init_141 (by decide) rfl ?_
  obtain ⟨hs, hF⟩ := ck_e hF
  have hs1 := hs
  refine x_iast (b := 144) ak_61 dX12_init_143 hs1 rfl ?_
  obtain ⟨h29, e_h29, hF⟩ := lt_e hF
  refine x_hp (h2 := h29) e_h29 ?_
  refine x_dup (b := 145) dX12_init_144 rfl rfl ?_
  refine x_bipush (n := 26) (b := 147) dX12_init_145 (by decide) rfl ?_
  refine x_iconst (n := 0) (b := 148) dX12_init_147 (by decide) rfl ?_
  obtain ⟨hs, hF⟩ := ck_e hF
  have hs1 := hs
  refine x_iast (b := 149) ak_61 dX12_init_148 hs1 rfl ?_
  obtain ⟨h30, e_h30, hF⟩ := lt_e hF
  refine x_hp (h2 := h30) e_h30 ?_
  refine x_dup (b := 150) dX12_init_149 rfl rfl ?_
  refine x_bipush (n := 27) (b := 152) dX12_init_150 (by decide) rfl ?_
  refine x_iconst (n := 0) (b := 153) dX12_init_152 (by decide) rfl ?_
  obtain ⟨hs, hF⟩ := ck_e hF
  have hs1 := hs
  refine x_iast (b := 154) ak_61 dX12_init_153 hs1 rfl ?_
  obtain ⟨h31, e_h31, hF⟩ := lt_e hF
  refine x_hp (h2 := h31) e_h31 ?_
  refine x_dup (b := 155) dX12_init_154 rfl rfl ?_
  refine x_bipush (n := 28) (b := 157) dX12_init_155 (by decide) rfl ?_
  refine x_iconst (n := 0) (b := 158) dX12_init_157 (by decide) rfl ?_
  obtain ⟨hs, hF⟩ := ck_e hF
  have hs1 := hs
  refine x_iast (b := 159) ak_61 dX12_init_158 hs1 rfl ?_
  obtain ⟨h32, e_h32, hF⟩ := lt_e hF
  refine x_hp (h2 := h32) e_h32 ?_
  refine x_dup (b := 160) dX12_init_159 rfl rfl ?_
  refine x_bipush (n := 29) (b := 162) dX12_init_160 (by decide) rfl ?_
  refine x_iconst (n := 0) (b := 163) dX12_init_162 (by decide) rfl ?_
  obtain ⟨hs, hF⟩ := ck_e hF
  have hs1 := hs
  refine x_iast (b := 164) ak_61 dX12_init_163 hs1 rfl ?_
  obtain ⟨h33, e_h33, hF⟩ := lt_e hF
  refine x_hp (h2 := h33) e_h33 ?_
  refine x_putAF (b := 167) fk_X12_13 dX12_init_164 rfl rfl (fun _ _ _ h9 => by cases h9; rfl) rfl 3 rfl ?_
  obtain ⟨h34, e_h34, hF⟩ := lt_e hF
  refine x_hp (h2 := h34) e_h34 ?_
  refine x_aload_n (i := 0) (b := 168) dX12_init_167 rfl rfl rfl ?_
  refine x_sipush (n := 128) (b := 171) dX12_init_168 (by decide) rfl ?_
  obtain ⟨hs, hF⟩ := ckp_e hF
  refine x_newa (r := 62) (i := 0) (N := 128) (b := 173) dX12_init_171 ak_62 (by decide) rfl rfl ki_758 rfl rfl (by decide) (fun C h9 => by cases h9) hs ⟨Nat.le_of_ble_eq_true rfl, Nat.le_of_ble_eq_true rfl⟩ rfl ?_
  obtain ⟨h35, e_h35, hF⟩ := lt_e hF
  refine x_hp (h2 := h35) e_h35 ?_
  refine x_u (u2 := (3, 958)) rfl ?_
  refine x_putAF (b := 176) fk_X12_16 dX12_init_173 rfl rfl (fun _ _ _ h9 => by cases h9; rfl) rfl 4 rfl ?_
  obtain ⟨h36, e_h36, hF⟩ := lt_e hF
  refine x_hp (h2 := h36) e_h36 ?_
  refine x_aload_n (i := 0) (b := 177) dX12_init_176 rfl rfl rfl ?_
  refine x_bipush (n := 6) (b := 179) dX12_init_177 (by decide) rfl ?_
  obtain ⟨hs, hF⟩ := ckp_e hF
  refine x_newa (r := 63) (i := 0) (N := 6) (b := 181) dX12_init_179 ak_63 (by decide) rfl rfl ki_223 rfl rfl (by decide) (fun C h9 => by cases h9) hs ⟨Nat.le_of_ble_eq_true rfl, Nat.le_of_ble_eq_true rfl⟩ rfl ?_
  obtain ⟨h37, e_h37, hF⟩ := lt_e hF
  refine x_hp (h2 := h37) e_h37 ?_
  refine x_u (u2 := (4, 964)) rfl ?_
  refine x_putAF (b := 184) fk_X12_20 dX12_init_181 rfl rfl (fun _ _ _ h9 => by cases h9; rfl) rfl 5 rfl ?_
  obtain ⟨h38, e_h38, hF⟩ := lt_e hF
  refine x_hp (h2 := h38) e_h38 ?_
  refine x_aload_n (i := 0) (b := 185) dX12_init_184 rfl rfl rfl ?_
  refine x_bipush (n := 6) (b := 187) dX12_init_185 (by decide) rfl ?_
  obtain ⟨hs, hF⟩ := ckp_e hF
  refine x_newa (r := 64) (i := 0) (N := 6) (b := 189) dX12_init_187 ak_64 (by decide) rfl rfl ki_223 rfl rfl (by decide) (fun C h9 => by cases h9) hs ⟨Nat.le_of_ble_eq_true rfl, Nat.le_of_ble_eq_true rfl⟩ rfl ?_
  obtain ⟨h39, e_h39, hF⟩ := lt_e hF
  refine x_hp (h2 := h39) e_h39 ?_
  refine x_u (u2 := (5, 970)) rfl ?_
  refine x_putAF (b := 192) fk_X12_23 dX12_init_189 rfl rfl (fun _ _ _ h9 => by cases h9; rfl) rfl 6 rfl ?_
  obtain ⟨h40, e_h40, hF⟩ := lt_e hF
  refine x_hp (h2 := h40) e_h40 ?_
  refine x_aload_n (i := 0) (b := 193) dX12_init_192 rfl rfl rfl ?_
  refine x_bipush (n := 6) (b := 195) dX12_init_193 (by decide) rfl ?_
  obtain ⟨hs, hF⟩ := ckp_e hF
  refine x_newa (r := 65) (i := 0) (N := 6) (b := 197) dX12_init_195 ak_65 (by decide) rfl rfl ki_223 rfl rfl (by decide) (fun C h9 => by cases h9) hs ⟨Nat.le_of_ble_eq_true rfl, Nat.le_of_ble_eq_true rfl⟩ rfl ?_
  obtain ⟨h41, e_h41, hF⟩ := lt_e hF
  refine x_hp (h2 := h41) e_h41 ?_
  refine x_u (u2 := (6, 976)) rfl ?_
  refine x_putAF (b := 200) fk_X12_26 dX12_init_197 rfl rfl (fun _ _ _ h9 => by cases h9; rfl) rfl 7 rfl ?_
  obtain ⟨h42, e_h42, hF⟩ := lt_e hF
  refine x_hp (h2 := h42) e_h42 ?_
  refine x_aload_n (i := 0) (b := 201) dX12_init_200 rfl rfl rfl ?_
  refine x_bipush (n := 6) (b := 203) dX12_init_201 (by decide) rfl ?_
  obtain ⟨hs, hF⟩ := ckp_e hF
  refine x_newa (r := 66) (i := 0) (N := 6) (b := 205) dX12_init_203 ak_66 (by decide) rfl rfl ki_223 rfl rfl (by decide) (fun C h9 => by cases h9) hs ⟨Nat.le_of_ble_eq_true rfl, Nat.le_of_ble_eq_true rfl⟩ rfl ?_
  obtain ⟨h43, e_h43, hF⟩ := lt_e hF
  refine x_hp (h2 := h43) e_h43 ?_
  refine x_u (u2 := (7, 982)) rfl ?_
  refine x_putAF (b := 208) fk_X12_29 dX12_init_205 rfl rfl (fun _ _ _ h9 => by cases h9; rfl) rfl 8 rfl ?_
  obtain ⟨h44, e_h44, hF⟩ := lt_e hF
  refine x_hp (h2 := h44) e_h44 ?_
  refine x_aload_n (i := 0) (b := 209) dX12_init_208 rfl rfl rfl ?_
  refine x_bipush (n := 16) (b := 211) dX12_init_209 (by decide) rfl ?_
  obtain ⟨hs, hF⟩ := ckp_e hF
  refine x_newa (r := 67) (i := 0) (N := 16) (b := 213) dX12_init_211 ak_67 (by decide) rfl rfl ki_223 rfl rfl (by decide) (fun C h9 => by cases h9) hs ⟨Nat.le_of_ble_eq_true rfl, Nat.le_of_ble_eq_true rfl⟩ rfl ?_
  obtain ⟨h45, e_h45, hF⟩ := lt_e hF
  refine x_hp (h2 := h45) e_h45 ?_
  refine x_u (u2 := (8, 998)) rfl ?_
  refine x_putAF (b := 216) fk_X12_32 dX12_init_213 rfl rfl (fun _ _ _ h9 => by cases h9; rfl) rfl 9 rfl ?_
  obtain ⟨h46, e_h46, hF⟩ := lt_e hF
  refine x_hp (h2 := h46) e_h46 ?_
  refine x_aload_n (i := 0) (b := 217) dX12_init_216 rfl rfl rfl ?_
  refine x_bipush (n := 8) (b := 219) dX12_init_217 (by decide) rfl ?_
  obtain ⟨hs, hF⟩ := ckp_e hF
  refine x_newa (r := 68) (i := 0) (N := 8) (b := 221) dX12_init_219 ak_68 (by decide) rfl rfl ki_223 rfl rfl (by decide) (fun C h9 => by cases h9) hs ⟨Nat.le_of_ble_eq_true rfl, Nat.le_of_ble_eq_true rfl⟩ rfl ?_
  obtain ⟨h47, e_h47, hF⟩ := lt_e hF
  refine x_hp (h2 := h47) e_h47 ?_
  refine x_u (u2 := (9, 1006)) rfl ?_
  refine x_putAF (b := 224) fk_X12_35 dX12_init_221 rfl rfl (fun _ _ _ h9 => by cases h9; rfl) rfl 10 rfl ?_
  obtain ⟨h48, e_h48, hF⟩ := lt_e hF
  refine x_hp (h2 := h48) e_h48 ?_
  refine x_aload_n (i := 0) (b := 225) dX12_init_224 rfl rfl rfl ?_
  refine x_bipush (n := 8) (b := 227) dX12_init_225 (by decide) rfl ?_
  obtain ⟨hs, hF⟩ := ckp_e hF
  refine x_newa (r := 69) (i := 0) (N := 8) (b := 229) dX12_init_227 ak_69 (by decide) rfl rfl ki_223 rfl rfl (by decide) (fun C h9 => by cases h9) hs ⟨Nat.le_of_ble_eq_true rfl, Nat.le_of_ble_eq_true rfl⟩ rfl ?_
  obtain ⟨h49, e_h49, hF⟩ := lt_e hF
  refine x_hp (h2 := h49) e_h49 ?_
  refine x_u (u2 := (10, 1014)) rfl ?_
  refine x_putAF (b := 232) fk_X12_38 dX12_init_229 rfl rfl (fun _ _ _ h9 => by cases h9; rfl) rfl 11 rfl ?_
  obtain ⟨h50, e_h50, hF⟩ := lt_e hF
  refine x_hp (h2 := h50) e_h50 ?_
  refine x_aload_n (i := 0) (b := 233) dX12_init_232 rfl rfl rfl ?_
  refine x_bipush (n := 8) (b := 235) dX12_init_233 (by decide) rfl ?_
  obtain ⟨hs, hF⟩ := ckp_e hF
  refine x_newa (r := 70) (i := 0) (N := 8) (b := 237) dX12_init_235 ak_70 (by decide) rfl rfl ki_223 rfl rfl (by decide) (fun C h9 => by cases h9) hs ⟨Nat.le_of_ble_eq_true rfl, Nat.le_of_ble_eq_true rfl⟩ rfl ?_
  obtain ⟨h51, e_h51, hF⟩ := lt_e hF
  refine x_hp (h2 := h51) e_h51 ?_
  refine x_u (u2 := (11, 1022)) rfl ?_
  refine x_putAF (b := 240) fk_X12_41 dX12_init_237 rfl rfl (fun _ _ _ h9 => by cases h9; rfl) rfl 12 rfl ?_
  obtain ⟨h52, e_h52, hF⟩ := lt_e hF
  refine x_hp (h2 := h52) e_h52 ?_
  refine x_aload_n (i := 0) (b := 241) dX12_init_240 rfl rfl rfl ?_
  refine x_bipush (n := 18) (b := 243) dX12_init_241 (by decide) rfl ?_
  obtain ⟨hs, hF⟩ := ckp_e hF
  refine x_newa (r := 71) (i := 0) (N := 18) (b := 245) dX12_init_243 ak_71 (by decide) rfl rfl ki_223 rfl rfl (by decide) (fun C h9 => by cases h9) hs ⟨Nat.le_of_ble_eq_true rfl, Nat.le_of_ble_eq_true rfl⟩ rfl ?_
  obtain ⟨h53, e_h53, hF⟩ := lt_e hF
  refine x_hp (h2 := h53) e_h53 ?_
  refine x_u (u2 := (12, 1040)) rfl ?_
  refine x_putAF (b := 248) fk_X12_44 dX12_init_245 rfl rfl (fun _ _ _ h9 => by cases h9; rfl) rfl 13 rfl ?_
  obtain ⟨h54, e_h54, hF⟩ := lt_e hF
  refine x_hp (h2 := h54) e_h54 ?_
  refine x_aload_n (i := 0) (b := 249) dX12_init_248 rfl rfl rfl ?_
  refine x_bipush (n := 18) (b := 251) dX12_init_249 (by decide) rfl ?_
  obtain ⟨hs, hF⟩ := ckp_e hF
  refine x_newa (r := 72) (i := 0) (N := 18) (b := 253) dX12_init_251 ak_72 (by decide) rfl rfl ki_223 rfl rfl (by decide) (fun C h9 => by cases h9) hs ⟨Nat.le_of_ble_eq_true rfl, Nat.le_of_ble_eq_true rfl⟩ rfl ?_
  obtain ⟨h55, e_h55, hF⟩ := lt_e hF
  refine x_hp (h2 := h55) e_h55 ?_
  refine x_u (u2 := (13, 1058)) rfl ?_
  refine x_putAF (b := 256) fk_X12_47 dX12_init_253 rfl rfl (fun _ _ _ h9 => by cases h9; rfl) rfl 14 rfl ?_
  obtain ⟨h56, e_h56, hF⟩ := lt_e hF
  refine x_hp (h2 := h56) e_h56 ?_
  refine x_aload_n (i := 0) (b := 257) dX12_init_256 rfl rfl rfl ?_
  refine x_bipush (n := 18) (b := 259) dX12_init_257 (by decide) rfl ?_
  obtain ⟨hs, hF⟩ := ckp_e hF
  refine x_newa (r := 73) (i := 0) (N := 18) (b := 261) dX12_init_259 ak_73 (by decide) rfl rfl ki_223 rfl rfl (by decide) (fun C h9 => by cases h9) hs ⟨Nat.le_of_ble_eq_true rfl, Nat.le_of_ble_eq_true rfl⟩ rfl ?_
  obtain ⟨h57, e_h57, hF⟩ := lt_e hF
  refine x_hp (h2 := h57) e_h57 ?_
  refine x_u (u2 := (14, 1076)) rfl ?_
  refine x_putAF (b := 264) fk_X12_50 dX12_init_261 rfl rfl (fun _ _ _ h9 => by cases h9; rfl) rfl 15 rfl ?_
  obtain ⟨h58, e_h58, hF⟩ := lt_e hF
  refine x_hp (h2 := h58) e_h58 ?_
  refine x_aload_n (i := 0) (b := 265) dX12_init_264 rfl rfl rfl ?_
  refine x_bipush (n := 18) (b := 267) dX12_init_265 (by decide) rfl ?_
  obtain ⟨hs, hF⟩ := ckp_e hF
  refine x_newa (r := 74) (i := 0) (N := 18) (b := 269) dX12_init_267 ak_74 (by decide) rfl rfl ki_223 rfl rfl (by decide) (fun C h9 => by cases h9) hs ⟨Nat.le_of_ble_eq_true rfl, Nat.le_of_ble_eq_true rfl⟩ rfl ?_
  obtain ⟨h59, e_h59, hF⟩ := lt_e hF
  refine x_hp (h2 := h59) e_h59 ?_
  refine x_u (u2 := (15, 1094)) rfl ?_
  refine x_putAF (b := 272) fk_X12_53 dX12_init_269 rfl rfl (fun _ _ _ h9 => by cases h9; rfl) rfl 16 rfl ?_
  obtain ⟨h60, e_h60, hF⟩ := lt_e hF
  refine x_hp (h2 := h60) e_h60 ?_
  refine x_aload_n (i := 0) (b := 273) dX12_init_272 rfl rfl rfl ?_
  refine x_bipush (n := 18) (b := 275) dX12_init_273 (by decide) rfl ?_
  obtain ⟨hs, hF⟩ := ckp_e hF
  refine x_newa (r := 75) (i := 0) (N := 18) (b := 277) dX12_init_275 ak_75 (by decide) rfl rfl ki_223 rfl rfl (by decide) (fun C h9 => by cases h9) hs ⟨Nat.le_of_ble_eq_true rfl, Nat.le_of_ble_eq_true rfl⟩ rfl ?_
  obtain ⟨h61, e_h61, hF⟩ := lt_e hF
  refine x_hp (h2 := h61) e_h61 ?_
  refine x_u (u2 := (16, 1112)) rfl ?_
  refine x_putAF (b := 280) fk_X12_56 dX12_init_277 rfl rfl (fun _ _ _ h9 => by cases h9; rfl) rfl 17 rfl ?_
  obtain ⟨h62, e_h62, hF⟩ := lt_e hF
  refine x_hp (h2 := h62) e_h62 ?_
  refine x_aload_n (i := 0) (b := 281) dX12_init_280 rfl rfl rfl ?_
  refine x_bipush (n := 18) (b := 283) dX12_init_281 (by decide) rfl ?_
  obtain ⟨hs, hF⟩ := ckp_e hF
  refine x_newa (r := 76) (i := 0) (N := 18) (b := 285) dX12_init_283 ak_76 (by decide) rfl rfl ki_223 rfl rfl (by decide) (fun C h9 => by cases h9) hs ⟨Nat.le_of_ble_eq_true rfl, Nat.le_of_ble_eq_true rfl⟩ rfl ?_
  obtain ⟨h63, e_h63, hF⟩ := lt_e hF
  refine x_hp (h2 := h63) e_h63 ?_
  refine x_u (u2 := (17, 1130)) rfl ?_
  refine x_putAF (b := 288) fk_X12_59 dX12_init_285 rfl rfl (fun _ _ _ h9 => by cases h9; rfl) rfl 18 rfl ?_
  obtain ⟨h64, e_h64, hF⟩ := lt_e hF
  refine x_hp (h2 := h64) e_h64 ?_
  refine x_aload_n (i := 0) (b := 289) dX12_init_288 rfl rfl rfl ?_
  refine x_bipush (n := 18) (b := 291) dX12_init_289 (by decide) rfl ?_
  obtain ⟨hs, hF⟩ := ckp_e hF
  refine x_newa (r := 77) (i := 0) (N := 18) (b := 293) dX12_init_291 ak_77 (by decide) rfl rfl ki_223 rfl rfl (by decide) (fun C h9 => by cases h9) hs ⟨Nat.le_of_ble_eq_true rfl, Nat.le_of_ble_eq_true rfl⟩ rfl ?_
  obtain ⟨h65, e_h65, hF⟩ := lt_e hF
  refine x_hp (h2 := h65) e_h65 ?_
  refine x_u (u2 := (18, 1148)) rfl ?_
  refine x_putAF (b := 296) fk_X12_62 dX12_init_293 rfl rfl (fun _ _ _ h9 => by cases h9; rfl) rfl 19 rfl ?_
  obtain ⟨h66, e_h66, hF⟩ := lt_e hF
  refine x_hp (h2 := h66) e_h66 ?_
  refine x_aload_n (i := 0) (b := 297) dX12_init_296 rfl rfl rfl ?_
  refine x_bipush (n := 18) (b := 299) dX12_init_297 (by decide) rfl ?_
  obtain ⟨hs, hF⟩ := ckp_e hF
  refine x_newa (r := 78) (i := 0) (N := 18) (b := 301) dX12_init_299 ak_78 (by decide) rfl rfl ki_223 rfl rfl (by decide) (fun C h9 => by cases h9) hs ⟨Nat.le_of_ble_eq_true rfl, Nat.le_of_ble_eq_true rfl⟩ rfl ?_
  obtain ⟨h67, e_h67, hF⟩ := lt_e hF
  refine x_hp (h2 := h67) e_h67 ?_
  refine x_u (u2 := (19, 1166)) rfl ?_
  refine x_putAF (b := 304) fk_X12_65 dX12_init_301 rfl rfl (fun _ _ _ h9 => by cases h9; rfl) rfl 20 rfl ?_
  obtain ⟨h68, e_h68, hF⟩ := lt_e hF
  refine x_hp (h2 := h68) e_h68 ?_
  refine x_aload_n (i := 0) (b := 305) dX12_init_304 rfl rfl rfl ?_
  refine x_bipush (n := 18) (b := 307) dX12_init_305 (by decide) rfl ?_
  obtain ⟨hs, hF⟩ := ckp_e hF
  refine x_newa (r := 79) (i := 0) (N := 18) (b := 309) dX12_init_307 ak_79 (by decide) rfl rfl ki_223 rfl rfl (by decide) (fun C h9 => by cases h9) hs ⟨Nat.le_of_ble_eq_true rfl, Nat.le_of_ble_eq_true rfl⟩ rfl ?_
  obtain ⟨h69, e_h69, hF⟩ := lt_e hF
  refine x_hp (h2 := h69) e_h69 ?_
  refine x_u (u2 := (20, 1184)) rfl ?_
  refine x_putAF (b := 312) fk_X12_68 dX12_init_309 rfl rfl (fun _ _ _ h9 => by cases h9; rfl) rfl 21 rfl ?_
  obtain ⟨h70, e_h70, hF⟩ := lt_e hF
  refine x_hp (h2 := h70) e_h70 ?_
  refine x_aload_n (i := 0) (b := 313) dX12_init_312 rfl rfl rfl ?_
  refine x_bipush (n := 18) (b := 315) dX12_init_313 (by decide) rfl ?_
  obtain ⟨hs, hF⟩ := ckp_e hF
  refine x_newa (r := 80) (i := 0) (N := 18) (b := 317) dX12_init_315 ak_80 (by decide) rfl rfl ki_223 rfl rfl (by decide) (fun C h9 => by cases h9) hs ⟨Nat.le_of_ble_eq_true rfl, Nat.le_of_ble_eq_true rfl⟩ rfl ?_
  obtain ⟨h71, e_h71, hF⟩ := lt_e hF
  refine x_hp (h2 := h71) e_h71 ?_
  refine x_u (u2 := (21, 1202)) rfl ?_
  refine x_putAF (b := 320) fk_X12_71 dX12_init_317 rfl rfl (fun _ _ _ h9 => by cases h9; rfl) rfl 22 rfl ?_
  obtain ⟨h72, e_h72, hF⟩ := lt_e hF
  refine x_hp (h2 := h72) e_h72 ?_
  refine x_aload_n (i := 0) (b := 321) dX12_init_320 rfl rfl rfl ?_
  refine x_sipush (n := 128) (b := 324) dX12_init_321 (by decide) rfl ?_
  obtain ⟨hs, hF⟩ := ckp_e hF
  refine x_newa (r := 81) (i := 0) (N := 128) (b := 326) dX12_init_324 ak_81 (by decide) rfl rfl ki_223 rfl rfl (by decide) (fun C h9 => by cases h9) hs ⟨Nat.le_of_ble_eq_true rfl, Nat.le_of_ble_eq_true rfl⟩ rfl ?_
  obtain ⟨h73, e_h73, hF⟩ := lt_e hF
  refine x_hp (h2 := h73) e_h73 ?_
  refine x_u (u2 := (22, 1330)) rfl ?_
  refine x_putAF (b := 329) fk_X12_74 dX12_init_326 rfl rfl (fun _ _ _ h9 => by cases h9; rfl) rfl 23 rfl ?_
  obtain ⟨h74, e_h74, hF⟩ := lt_e hF
  refine x_hp (h2 := h74) e_h74 ?_
  refine x_aload_n (i := 0) (b := 330) dX12_init_329 rfl rfl rfl ?_
  refine x_sipush (n := 128) (b := 333) dX12_init_330 (by decide) rfl ?_
  obtain ⟨hs, hF⟩ := ckp_e hF
  refine x_newa (r := 82) (i := 0) (N := 128) (b := 335) dX12_init_333 ak_82 (by decide) rfl rfl ki_223 rfl rfl (by decide) (fun C h9 => by cases h9) hs ⟨Nat.le_of_ble_eq_true rfl, Nat.le_of_ble_eq_true rfl⟩ rfl ?_
  obtain ⟨h75, e_h75, hF⟩ := lt_e hF
  refine x_hp (h2 := h75) e_h75 ?_
  refine x_u (u2 := (23, 1458)) rfl ?_
  refine x_putAF (b := 338) fk_X12_77 dX12_init_335 rfl rfl (fun _ _ _ h9 => by cases h9; rfl) rfl 24 rfl ?_
  obtain ⟨h76, e_h76, hF⟩ := lt_e hF
  refine x_hp (h2 := h76) e_h76 ?_
  refine x_aload_n (i := 0) (b := 339) dX12_init_338 rfl rfl rfl ?_
  refine x_iconst (n := (-1)) (b := 340) dX12_init_339 (by decide) rfl ?_
  refine x_putI (b := 343) fk_X12_80 dX12_init_340 rfl rfl 35 rfl ?_
  obtain ⟨h77, e_h77, hF⟩ := lt_e hF
  refine x_hp (h2 := h77) e_h77 ?_
  refine x_aload_n (i := 0) (b := 344) dX12_init_343 rfl rfl rfl ?_
  refine x_sipush (n := 4096) (b := 347) dX12_init_344 (by decide) rfl ?_
  obtain ⟨hs, hF⟩ := ckp_e hF
  refine x_newa (r := 83) (i := 0) (N := 4096) (b := 349) dX12_init_347 ak_83 (by decide) rfl rfl ki_223 rfl rfl (by decide) (fun C h9 => by cases h9) hs ⟨Nat.le_of_ble_eq_true rfl, Nat.le_of_ble_eq_true rfl⟩ rfl ?_
  obtain ⟨h78, e_h78, hF⟩ := lt_e hF
  refine x_hp (h2 := h78) e_h78 ?_
  refine x_u (u2 := (24, 5554)) rfl ?_
  refine x_putAF (b := 352) fk_X12_84 dX12_init_349 rfl rfl (fun _ _ _ h9 => by cases h9; rfl) rfl 38 rfl ?_
  obtain ⟨h79, e_h79, hF⟩ := lt_e hF
  refine x_hp (h2 := h79) e_h79 ?_
  refine x_aload_n (i := 0) (b := 353) dX12_init_352 rfl rfl rfl ?_
  refine x_bipush (n := 23) (b := 355) dX12_init_353 (by decide) rfl ?_
  obtain ⟨hs, hF⟩ := ckp_e hF
  refine x_newa (r := 84) (i := 0) (N := 23) (b := 357) dX12_init_355 ak_84 (by decide) rfl rfl ki_223 rfl rfl (by decide) (fun C h9 => by cases h9) hs ⟨Nat.le_of_ble_eq_true rfl, Nat.le_of_ble_eq_true rfl⟩ rfl ?_
  obtain ⟨h80, e_h80, hF⟩ := lt_e hF
  refine x_hp (h2 := h80) e_h80 ?_
  refine x_u (u2 := (25, 5577)) rfl ?_
  refine x_putAF (b := 360) fk_X12_87 dX12_init_357 rfl rfl (fun _ _ _ h9 => by cases h9; rfl) rfl 39 rfl ?_
  obtain ⟨h81, e_h81, hF⟩ := lt_e hF
  refine x_hp (h2 := h81) e_h81 ?_
  refine x_aload_n (i := 0) (b := 361) dX12_init_360 rfl rfl rfl ?_
  refine x_bipush (n := 23) (b := 363) dX12_init_361 (by decide) rfl ?_
  obtain ⟨hs, hF⟩ := ckp_e hF
  refine x_newa (r := 85) (i := 0) (N := 23) (b := 365) dX12_init_363 ak_85 (by decide) rfl rfl ki_223 rfl rfl (by decide) (fun C h9 => by cases h9) hs ⟨Nat.le_of_ble_eq_true rfl, Nat.le_of_ble_eq_true rfl⟩ rfl ?_
  obtain ⟨h82, e_h82, hF⟩ := lt_e hF
  refine x_hp (h2 := h82) e_h82 ?_
  refine x_u (u2 := (26, 5600)) rfl ?_
  refine x_putAF (b := 368) fk_X12_90 dX12_init_365 rfl rfl (fun _ _ _ h9 => by cases h9; rfl) rfl 40 rfl ?_
  obtain ⟨h83, e_h83, hF⟩ := lt_e hF
  refine x_hp (h2 := h83) e_h83 ?_
  refine x_aload_n (i := 0) (b := 369) dX12_init_368 rfl rfl rfl ?_
  refine x_bipush (n := 23) (b := 371) dX12_init_369 (by decide) rfl ?_
  obtain ⟨hs, hF⟩ := ckp_e hF
  refine x_newa (r := 86) (i := 0) (N := 23) (b := 373) dX12_init_371 ak_86 (by decide) rfl rfl ki_223 rfl rfl (by decide) (fun C h9 => by cases h9) hs ⟨Nat.le_of_ble_eq_true rfl, Nat.le_of_ble_eq_true rfl⟩ rfl ?_
  obtain ⟨h84, e_h84, hF⟩ := lt_e hF
  refine x_hp (h2 := h84) e_h84 ?_
  refine x_u (u2 := (27, 5623)) rfl ?_
  refine x_putAF (b := 376) fk_X12_93 dX12_init_373 rfl rfl (fun _ _ _ h9 => by cases h9; rfl) rfl 41 rfl ?_
  obtain ⟨h85, e_h85, hF⟩ := lt_e hF
  refine x_hp (h2 := h85) e_h85 ?_
  refine x_aload_n (i := 0) (b := 377) dX12_init_376 rfl rfl rfl ?_
  refine x_bipush (n := 23) (b := 379) dX12_init_377 (by decide) rfl ?_
  obtain ⟨hs, hF⟩ := ckp_e hF
  refine x_newa (r := 87) (i := 0) (N := 23) (b := 381) dX12_init_379 ak_87 (by decide) rfl rfl ki_223 rfl rfl (by decide) (fun C h9 => by cases h9) hs ⟨Nat.le_of_ble_eq_true rfl, Nat.le_of_ble_eq_true rfl⟩ rfl ?_
  obtain ⟨h86, e_h86, hF⟩ := lt_e hF
  refine x_hp (h2 := h86) e_h86 ?_
  refine x_u (u2 := (28, 5646)) rfl ?_
  refine x_putAF (b := 384) fk_X12_96 dX12_init_381 rfl rfl (fun _ _ _ h9 => by cases h9; rfl) rfl 42 rfl ?_
  obtain ⟨h87, e_h87, hF⟩ := lt_e hF
  refine x_hp (h2 := h87) e_h87 ?_
  refine x_aload_n (i := 0) (b := 385) dX12_init_384 rfl rfl rfl ?_
  refine x_bipush (n := 23) (b := 387) dX12_init_385 (by decide) rfl ?_
  obtain ⟨hs, hF⟩ := ckp_e hF
  refine x_newa (r := 88) (i := 0) (N := 23) (b := 389) dX12_init_387 ak_88 (by decide) rfl rfl ki_223 rfl rfl (by decide) (fun C h9 => by cases h9) hs ⟨Nat.le_of_ble_eq_true rfl, Nat.le_of_ble_eq_true rfl⟩ rfl ?_
  obtain ⟨h88, e_h88, hF⟩ := lt_e hF
  refine x_hp (h2 := h88) e_h88 ?_
  refine x_u (u2 := (29, 5669)) rfl ?_
  refine x_putAF (b := 392) fk_X12_99 dX12_init_389 rfl rfl (fun _ _ _ h9 => by cases h9; rfl) rfl 43 rfl ?_
  obtain ⟨h89, e_h89, hF⟩ := lt_e hF
  refine x_hp (h2 := h89) e_h89 ?_
  refine x_aload_n (i := 0) (b := 393) dX12_init_392 rfl rfl rfl ?_
  refine x_bipush (n := 23) (b := 395) dX12_init_393 (by decide) rfl ?_
  obtain ⟨hs, hF⟩ := ckp_e hF
  refine x_newa (r := 89) (i := 0) (N := 23) (b := 397) dX12_init_395 ak_89 (by decide) rfl rfl ki_223 rfl rfl (by decide) (fun C h9 => by cases h9) hs ⟨Nat.le_of_ble_eq_true rfl, Nat.le_of_ble_eq_true rfl⟩ rfl ?_
  obtain ⟨h90, e_h90, hF⟩ := lt_e hF
  refine x_hp (h2 := h90) e_h90 ?_
  refine x_u (u2 := (30, 5692)) rfl ?_
  refine x_putAF (b := 400) fk_X12_102 dX12_init_397 rfl rfl (fun _ _ _ h9 => by cases h9; rfl) rfl 44 rfl ?_
  obtain ⟨h91, e_h91, hF⟩ := lt_e hF
  refine x_hp (h2 := h91) e_h91 ?_
  refine x_aload_n (i := 0) (b := 401) dX12_init_400 rfl rfl rfl ?_
  refine x_bipush (n := 23) (b := 403) dX12_init_401 (by decide) rfl ?_
  obtain ⟨hs, hF⟩ := ckp_e hF
  refine x_newa (r := 90) (i := 0) (N := 23) (b := 405) dX12_init_403 ak_90 (by decide) rfl rfl ki_223 rfl rfl (by decide) (fun C h9 => by cases h9) hs ⟨Nat.le_of_ble_eq_true rfl, Nat.le_of_ble_eq_true rfl⟩ rfl ?_
  obtain ⟨h92, e_h92, hF⟩ := lt_e hF
  refine x_hp (h2 := h92) e_h92 ?_
  refine x_u (u2 := (31, 5715)) rfl ?_
  refine x_putAF (b := 408) fk_X12_105 dX12_init_405 rfl rfl (fun _ _ _ h9 => by cases h9; rfl) rfl 45 rfl ?_
  obtain ⟨h93, e_h93, hF⟩ := lt_e hF
  refine x_hp (h2 := h93) e_h93 ?_
  refine x_aload_n (i := 0) (b := 409) dX12_init_408 rfl rfl rfl ?_
  refine x_sipush (n := 207) (b := 412) dX12_init_409 (by decide) rfl ?_
  obtain ⟨hs, hF⟩ := ckp_e hF
  refine x_newa (r := 91) (i := 0) (N := 207) (b := 414) dX12_init_412 ak_91 (by decide) rfl rfl ki_223 rfl rfl (by decide) (fun C h9 => by cases h9) hs ⟨Nat.le_of_ble_eq_true rfl, Nat.le_of_ble_eq_true rfl⟩ rfl ?_
  obtain ⟨h94, e_h94, hF⟩ := lt_e hF
  refine x_hp (h2 := h94) e_h94 ?_
  refine x_u (u2 := (32, 5922)) rfl ?_
  refine x_putAF (b := 417) fk_X12_108 dX12_init_414 rfl rfl (fun _ _ _ h9 => by cases h9; rfl) rfl 46 rfl ?_
  obtain ⟨h95, e_h95, hF⟩ := lt_e hF
  refine x_hp (h2 := h95) e_h95 ?_
  refine x_aload_n (i := 0) (b := 418) dX12_init_417 rfl rfl rfl ?_
  refine x_sipush (n := 207) (b := 421) dX12_init_418 (by decide) rfl ?_
  obtain ⟨hs, hF⟩ := ckp_e hF
  refine x_newa (r := 92) (i := 0) (N := 207) (b := 423) dX12_init_421 ak_92 (by decide) rfl rfl ki_758 rfl rfl (by decide) (fun C h9 => by cases h9) hs ⟨Nat.le_of_ble_eq_true rfl, Nat.le_of_ble_eq_true rfl⟩ rfl ?_
  obtain ⟨h96, e_h96, hF⟩ := lt_e hF
  refine x_hp (h2 := h96) e_h96 ?_
  refine x_u (u2 := (33, 6129)) rfl ?_
  refine x_putAF (b := 426) fk_X12_111 dX12_init_423 rfl rfl (fun _ _ _ h9 => by cases h9; rfl) rfl 47 rfl ?_
  obtain ⟨h97, e_h97, hF⟩ := lt_e hF
  refine x_hp (h2 := h97) e_h97 ?_
  refine x_aload_n (i := 0) (b := 427) dX12_init_426 rfl rfl rfl ?_
  refine x_sipush (n := 180) (b := 430) dX12_init_427 (by decide) rfl ?_
  obtain ⟨hs, hF⟩ := ckp_e hF
  refine x_newa (r := 93) (i := 0) (N := 180) (b := 432) dX12_init_430 ak_93 (by decide) rfl rfl ki_223 rfl rfl (by decide) (fun C h9 => by cases h9) hs ⟨Nat.le_of_ble_eq_true rfl, Nat.le_of_ble_eq_true rfl⟩ rfl ?_
  obtain ⟨h98, e_h98, hF⟩ := lt_e hF
  refine x_hp (h2 := h98) e_h98 ?_
  refine x_u (u2 := (34, 6309)) rfl ?_
  refine x_putAF (b := 435) fk_X12_114 dX12_init_432 rfl rfl (fun _ _ _ h9 => by cases h9; rfl) rfl 48 rfl ?_
  obtain ⟨h99, e_h99, hF⟩ := lt_e hF
  refine x_hp (h2 := h99) e_h99 ?_
  refine x_aload_n (i := 0) (b := 436) dX12_init_435 rfl rfl rfl ?_
  refine x_sipush (n := 180) (b := 439) dX12_init_436 (by decide) rfl ?_
  obtain ⟨hs, hF⟩ := ckp_e hF
  refine x_newa (r := 94) (i := 0) (N := 180) (b := 441) dX12_init_439 ak_94 (by decide) rfl rfl ki_223 rfl rfl (by decide) (fun C h9 => by cases h9) hs ⟨Nat.le_of_ble_eq_true rfl, Nat.le_of_ble_eq_true rfl⟩ rfl ?_
  obtain ⟨h100, e_h100, hF⟩ := lt_e hF
  refine x_hp (h2 := h100) e_h100 ?_
  refine x_u (u2 := (35, 6489)) rfl ?_
  refine x_putAF (b := 444) fk_X12_117 dX12_init_441 rfl rfl (fun _ _ _ h9 => by cases h9; rfl) rfl 49 rfl ?_
  obtain ⟨h101, e_h101, hF⟩ := lt_e hF
  refine x_hp (h2 := h101) e_h101 ?_
  refine x_aload_n (i := 0) (b := 445) dX12_init_444 rfl rfl rfl ?_
  refine x_sipush (n := 180) (b := 448) dX12_init_445 (by decide) rfl ?_
  obtain ⟨hs, hF⟩ := ckp_e hF
  refine x_newa (r := 95) (i := 0) (N := 180) (b := 450) dX12_init_448 ak_95 (by decide) rfl rfl ki_223 rfl rfl (by decide) (fun C h9 => by cases h9) hs ⟨Nat.le_of_ble_eq_true rfl, Nat.le_of_ble_eq_true rfl⟩ rfl ?_
  obtain ⟨h102, e_h102, hF⟩ := lt_e hF
  refine x_hp (h2 := h102) e_h102 ?_
  refine x_u (u2 := (36, 6669)) rfl ?_
  refine x_putAF (b := 453) fk_X12_120 dX12_init_450 rfl rfl (fun _ _ _ h9 => by cases h9; rfl) rfl 50 rfl ?_
  obtain ⟨h103, e_h103, hF⟩ := lt_e hF
  refine x_hp (h2 := h103) e_h103 ?_
  refine x_aload_n (i := 0) (b := 454) dX12_init_453 rfl rfl rfl ?_
  refine x_sipush (n := 180) (b := 457) dX12_init_454 (by decide) rfl ?_
  obtain ⟨hs, hF⟩ := ckp_e hF
  refine x_newa (r := 96) (i := 0) (N := 180) (b := 459) dX12_init_457 ak_96 (by decide) rfl rfl ki_223 rfl rfl (by decide) (fun C h9 => by cases h9) hs ⟨Nat.le_of_ble_eq_true rfl, Nat.le_of_ble_eq_true rfl⟩ rfl ?_
  obtain ⟨h104, e_h104, hF⟩ := lt_e hF
  refine x_hp (h2 := h104) e_h104 ?_
  refine x_u (u2 := (37, 6849)) rfl ?_
  refine x_putAF (b := 462) fk_X12_123 dX12_init_459 rfl rfl (fun _ _ _ h9 => by cases h9; rfl) rfl 51 rfl ?_
  obtain ⟨h105, e_h105, hF⟩ := lt_e hF
  refine x_hp (h2 := h105) e_h105 ?_
  refine x_aload_n (i := 0) (b := 463) dX12_init_462 rfl rfl rfl ?_
  refine x_sipush (n := 180) (b := 466) dX12_init_463 (by decide) rfl ?_
  obtain ⟨hs, hF⟩ := ckp_e hF
  refine x_newa (r := 97) (i := 0) (N := 180) (b := 468) dX12_init_466 ak_97 (by decide) rfl rfl ki_223 rfl rfl (by decide) (fun C h9 => by cases h9) hs ⟨Nat.le_of_ble_eq_true rfl, Nat.le_of_ble_eq_true rfl⟩ rfl ?_
  obtain ⟨h106, e_h106, hF⟩ := lt_e hF
  refine x_hp (h2 := h106) e_h106 ?_
  refine x_u (u2 := (38, 7029)) rfl ?_
  refine x_putAF (b := 471) fk_X12_126 dX12_init_468 rfl rfl (fun _ _ _ h9 => by cases h9; rfl) rfl 52 rfl ?_
  obtain ⟨h107, e_h107, hF⟩ := lt_e hF
  refine x_hp (h2 := h107) e_h107 ?_
  refine x_aload_n (i := 0) (b := 472) dX12_init_471 rfl rfl rfl ?_
  refine x_iconst (n := (-1)) (b := 473) dX12_init_472 (by decide) rfl ?_
  refine x_putI (b := 476) fk_X12_129 dX12_init_473 rfl rfl 55 rfl ?_
  obtain ⟨h108, e_h108, hF⟩ := lt_e hF
  refine x_hp (h2 := h108) e_h108 ?_
  refine x_aload_n (i := 0) (b := 477) dX12_init_476 rfl rfl rfl ?_
  refine x_iconst (n := (-1)) (b := 478) dX12_init_477 (by decide) rfl ?_
  refine x_putI (b := 481) fk_X12_132 dX12_init_478 rfl rfl 56 rfl ?_
  obtain ⟨h109, e_h109, hF⟩ := lt_e hF
  refine x_hp (h2 := h109) e_h109 ?_
  refine x_aload_n (i := 0) (b := 482) dX12_init_481 rfl rfl rfl ?_
  refine x_bipush (n := 7) (b := 484) dX12_init_482 (by decide) rfl ?_
  obtain ⟨hs, hF⟩ := ckp_e hF
  refine x_newa (r := 98) (i := 0) (N := 7) (b := 486) dX12_init_484 ak_98 (by decide) rfl rfl ki_250 rfl rfl (by decide) (fun C h9 => by cases h9) hs ⟨Nat.le_of_ble_eq_true rfl, Nat.le_of_ble_eq_true rfl⟩ rfl ?_
  obtain ⟨h110, e_h110, hF⟩ := lt_e hF
  refine x_hp (h2 := h110) e_h110 ?_
  refine x_u (u2 := (39, 7036)) rfl ?_
  refine x_putAF (b := 489) fk_X12_135 dX12_init_486 rfl rfl (fun _ _ _ h9 => by cases h9; rfl) rfl 58 rfl ?_
  obtain ⟨h111, e_h111, hF⟩ := lt_e hF
  refine x_hp (h2 := h111) e_h111 ?_
  refine x_aload_n (i := 0) (b := 490) dX12_init_489 rfl rfl rfl ?_
  refine x_bipush (n := 64) (b := 492) dX12_init_490 (by decide) rfl ?_
  obtain ⟨hs, hF⟩ := ckp_e hF
  refine x_newa (r := 99) (i := 0) (N := 64) (b := 494) dX12_init_492 ak_99 (by decide) rfl rfl ki_250 rfl rfl (by decide) (fun C h9 => by cases h9) hs ⟨Nat.le_of_ble_eq_true rfl, Nat.le_of_ble_eq_true rfl⟩ rfl ?_
  obtain ⟨h112, e_h112, hF⟩ := lt_e hF
  refine x_hp (h2 := h112) e_h112 ?_
  refine x_u (u2 := (40, 7100)) rfl ?_
  refine x_putAF (b := 497) fk_X12_139 dX12_init_494 rfl rfl (fun _ _ _ h9 => by cases h9; rfl) rfl 59 rfl ?_
  obtain ⟨h113, e_h113, hF⟩ := lt_e hF
  refine x_hp (h2 := h113) e_h113 ?_
  refine x_aload_n (i := 0) (b := 498) dX12_init_497 rfl rfl rfl ?_
  refine x_bipush (n := 9) (b := 500) dX12_init_498 (by decide) rfl ?_
  obtain ⟨hs, hF⟩ := ckp_e hF
  refine x_newa (r := 100) (i := 0) (N := 9) (b := 502) dX12_init_500 ak_100 (by decide) rfl rfl ki_223 rfl rfl (by decide) (fun C h9 => by cases h9) hs ⟨Nat.le_of_ble_eq_true rfl, Nat.le_of_ble_eq_true rfl⟩ rfl ?_
  obtain ⟨h114, e_h114, hF⟩ := lt_e hF
  refine x_hp (h2 := h114) e_h114 ?_
  refine x_u (u2 := (41, 7109)) rfl ?_
  refine x_putAF (b := 505) fk_X12_142 dX12_init_502 rfl rfl (fun _ _ _ h9 => by cases h9; rfl) rfl 61 rfl ?_
  obtain ⟨h115, e_h115, hF⟩ := lt_e hF
  refine x_hp (h2 := h115) e_h115 ?_
  refine x_aload_n (i := 0) (b := 506) dX12_init_505 rfl rfl rfl ?_
  refine x_bipush (n := 9) (b := 508) dX12_init_506 (by decide) rfl ?_
  obtain ⟨hs, hF⟩ := ckp_e hF
  refine x_newa (r := 101) (i := 0) (N := 9) (b := 510) dX12_init_508 ak_101 (by decide) rfl rfl ki_223 rfl rfl (by decide) (fun C h9 => by cases h9) hs ⟨Nat.le_of_ble_eq_true rfl, Nat.le_of_ble_eq_true rfl⟩ rfl ?_
  obtain ⟨h116, e_h116, hF⟩ := lt_e hF
  refine x_hp (h2 := h116) e_h116 ?_
  refine x_u (u2 := (42, 7118)) rfl ?_
  refine x_putAF (b := 513) fk_X12_145 dX12_init_510 rfl rfl (fun _ _ _ h9 => by cases h9; rfl) rfl 62 rfl ?_
  obtain ⟨h117, e_h117, hF⟩ := lt_e hF
  refine x_hp (h2 := h117) e_h117 ?_
  refine x_aload_n (i := 0) (b := 514) dX12_init_513 rfl rfl rfl ?_
  refine x_iconst (n := 4) (b := 515) dX12_init_514 (by decide) rfl ?_
  obtain ⟨hs, hF⟩ := ckp_e hF
  refine x_newa (r := 102) (i := 0) (N := 4) (b := 517) dX12_init_515 ak_102 (by decide) rfl rfl ki_223 rfl rfl (by decide) (fun C h9 => by cases h9) hs ⟨Nat.le_of_ble_eq_true rfl, Nat.le_of_ble_eq_true rfl⟩ rfl ?_
  obtain ⟨h118, e_h118, hF⟩ := lt_e hF
  refine x_hp (h2 := h118) e_h118 ?_
  refine x_u (u2 := (43, 7122)) rfl ?_
  refine x_putAF (b := 520) fk_X12_148 dX12_init_517 rfl rfl (fun _ _ _ h9 => by cases h9; rfl) rfl 63 rfl ?_
  obtain ⟨h119, e_h119, hF⟩ := lt_e hF
  refine x_hp (h2 := h119) e_h119 ?_
  refine x_aload_n (i := 0) (b := 521) dX12_init_520 rfl rfl rfl ?_
  refine x_iconst (n := 3) (b := 522) dX12_init_521 (by decide) rfl ?_
  obtain ⟨hs, hF⟩ := ckp_e hF
  refine x_newa (r := 103) (i := 0) (N := 3) (b := 524) dX12_init_522 ak_103 (by decide) rfl rfl ki_223 rfl rfl (by decide) (fun C h9 => by cases h9) hs ⟨Nat.le_of_ble_eq_true rfl, Nat.le_of_ble_eq_true rfl⟩ rfl ?_
  obtain ⟨h120, e_h120, hF⟩ := lt_e hF
  refine x_hp (h2 := h120) e_h120 ?_
  refine x_u (u2 := (44, 7125)) rfl ?_
  refine x_putAF (b := 527) fk_X12_151 dX12_init_524 rfl rfl (fun _ _ _ h9 => by cases h9; rfl) rfl 65 rfl ?_
  obtain ⟨h121, e_h121, hF⟩ := lt_e hF
  refine x_hp (h2 := h121) e_h121 ?_
  refine x_aload_n (i := 0) (b := 528) dX12_init_527 rfl rfl rfl ?_
  refine x_iconst (n := 3) (b := 529) dX12_init_528 (by decide) rfl ?_
  obtain ⟨hs, hF⟩ := ckp_e hF
  refine x_newa (r := 104) (i := 0) (N := 3) (b := 531) dX12_init_529 ak_104 (by decide) rfl rfl ki_223 rfl rfl (by decide) (fun C h9 => by cases h9) hs ⟨Nat.le_of_ble_eq_true rfl, Nat.le_of_ble_eq_true rfl⟩ rfl ?_
  obtain ⟨h122, e_h122, hF⟩ := lt_e hF
  refine x_hp (h2 := h122) e_h122 ?_
  refine x_u (u2 := (45, 7128)) rfl ?_
  refine x_putAF (b := 534) fk_X12_154 dX12_init_531 rfl rfl (fun _ _ _ h9 => by cases h9; rfl) rfl 66 rfl ?_
  obtain ⟨h123, e_h123, hF⟩ := lt_e hF
  refine x_hp (h2 := h123) e_h123 ?_
  refine x_aload_n (i := 0) (b := 535) dX12_init_534 rfl rfl rfl ?_
  refine x_iconst (n := 3) (b := 536) dX12_init_535 (by decide) rfl ?_
  obtain ⟨hs, hF⟩ := ckp_e hF
  refine x_newa (r := 105) (i := 0) (N := 3) (b := 538) dX12_init_536 ak_105 (by decide) rfl rfl ki_223 rfl rfl (by decide) (fun C h9 => by cases h9) hs ⟨Nat.le_of_ble_eq_true rfl, Nat.le_of_ble_eq_true rfl⟩ rfl ?_
  obtain ⟨h124, e_h124, hF⟩ := lt_e hF
  refine x_hp (h2 := h124) e_h124 ?_
  refine x_u (u2 := (46, 7131)) rfl ?_
  refine x_putAF (b := 541) fk_X12_157 dX12_init_538 rfl rfl (fun _ _ _ h9 => by cases h9; rfl) rfl 69 rfl ?_
  obtain ⟨h125, e_h125, hF⟩ := lt_e hF
  refine x_hp (h2 := h125) e_h125 ?_
  refine x_aload_n (i := 0) (b := 542) dX12_init_541 rfl rfl rfl ?_
  refine x_iconst (n := 3) (b := 543) dX12_init_542 (by decide) rfl ?_
  obtain ⟨hs, hF⟩ := ckp_e hF
  refine x_newa (r := 106) (i := 0) (N := 3) (b := 545) dX12_init_543 ak_106 (by decide) rfl rfl ki_223 rfl rfl (by decide) (fun C h9 => by cases h9) hs ⟨Nat.le_of_ble_eq_true rfl, Nat.le_of_ble_eq_true rfl⟩ rfl ?_
  obtain ⟨h126, e_h126, hF⟩ := lt_e hF
  refine x_hp (h2 := h126) e_h126 ?_
  refine x_u (u2 := (47, 7134)) rfl ?_
  refine x_putAF (b := 548) fk_X12_160 dX12_init_545 rfl rfl (fun _ _ _ h9 => by cases h9; rfl) rfl 70 rfl ?_
  obtain ⟨h127, e_h127, hF⟩ := lt_e hF
  refine x_hp (h2 := h127) e_h127 ?_
  refine x_aload_n (i := 0) (b := 549) dX12_init_548 rfl rfl rfl ?_
  refine x_iconst (n := 3) (b := 550) dX12_init_549 (by decide) rfl ?_
  obtain ⟨hs, hF⟩ := ckp_e hF
  refine x_newa (r := 107) (i := 0) (N := 3) (b := 552) dX12_init_550 ak_107 (by decide) rfl rfl ki_223 rfl rfl (by decide) (fun C h9 => by cases h9) hs ⟨Nat.le_of_ble_eq_true rfl, Nat.le_of_ble_eq_true rfl⟩ rfl ?_
  obtain ⟨h128, e_h128, hF⟩ := lt_e hF
  refine x_hp (h2 := h128) e_h128 ?_
  refine x_u (u2 := (48, 7137)) rfl ?_
  refine x_putAF (b := 555) fk_X12_163 dX12_init_552 rfl rfl (fun _ _ _ h9 => by cases h9; rfl) rfl 71 rfl ?_
  obtain ⟨h129, e_h129, hF⟩ := lt_e hF
  refine x_hp (h2 := h129) e_h129 ?_
  refine x_aload_n (i := 0) (b := 556) dX12_init_555 rfl rfl rfl ?_
  refine x_bipush (n := 27) (b := 558) dX12_init_556 (by decide) rfl ?_
  obtain ⟨hs, hF⟩ := ckp_e hF
  refine x_newa (r := 108) (i := 0) (N := 27) (b := 560) dX12_init_558 ak_108 (by decide) rfl rfl ki_223 rfl rfl (by decide) (fun C h9 => by cases h9) hs ⟨Nat.le_of_ble_eq_true rfl, Nat.le_of_ble_eq_true rfl⟩ rfl ?_
  obtain ⟨h130, e_h130, hF⟩ := lt_e hF
  refine x_hp (h2 := h130) e_h130 ?_
  refine x_u (u2 := (49, 7164)) rfl ?_
  refine x_putAF (b := 563) fk_X12_166 dX12_init_560 rfl rfl (fun _ _ _ h9 => by cases h9; rfl) rfl 72 rfl ?_
  obtain ⟨h131, e_h131, hF⟩ := lt_e hF
  refine x_hp (h2 := h131) e_h131 ?_
  refine x_aload_n (i := 0) (b := 564) dX12_init_563 rfl rfl rfl ?_
  refine x_bipush (n := 27) (b := 566) dX12_init_564 (by decide) rfl ?_
  obtain ⟨hs, hF⟩ := ckp_e hF
  refine x_newa (r := 109) (i := 0) (N := 27) (b := 568) dX12_init_566 ak_109 (by decide) rfl rfl ki_758 rfl rfl (by decide) (fun C h9 => by cases h9) hs ⟨Nat.le_of_ble_eq_true rfl, Nat.le_of_ble_eq_true rfl⟩ rfl ?_
  obtain ⟨h132, e_h132, hF⟩ := lt_e hF
  refine x_hp (h2 := h132) e_h132 ?_
  refine x_u (u2 := (50, 7191)) rfl ?_
  refine x_putAF (b := 571) fk_X12_169 dX12_init_568 rfl rfl (fun _ _ _ h9 => by cases h9; rfl) rfl 73 rfl ?_
  obtain ⟨h133, e_h133, hF⟩ := lt_e hF
  refine x_hp (h2 := h133) e_h133 ?_
  refine x_aload_n (i := 0) (b := 572) dX12_init_571 rfl rfl rfl ?_
  refine x_iconst (n := (-1)) (b := 573) dX12_init_572 (by decide) rfl ?_
  refine x_putI (b := 576) fk_X12_172 dX12_init_573 rfl rfl 75 rfl ?_
  obtain ⟨h134, e_h134, hF⟩ := lt_e hF
  refine x_hp (h2 := h134) e_h134 ?_
  refine x_aload_n (i := 0) (b := 577) dX12_init_576 rfl rfl rfl ?_
  refine x_bipush (n := 32) (b := 579) dX12_init_577 (by decide) rfl ?_
  obtain ⟨hs, hF⟩ := ckp_e hF
  refine x_newa (r := 110) (i := 0) (N := 32) (b := 581) dX12_init_579 ak_110 (by decide) rfl rfl ki_223 rfl rfl (by decide) (fun C h9 => by cases h9) hs ⟨Nat.le_of_ble_eq_true rfl, Nat.le_of_ble_eq_true rfl⟩ rfl ?_
  obtain ⟨h135, e_h135, hF⟩ := lt_e hF
  refine x_hp (h2 := h135) e_h135 ?_
  refine x_u (u2 := (51, 7223)) rfl ?_
  refine x_putAF (b := 584) fk_X12_175 dX12_init_581 rfl rfl (fun _ _ _ h9 => by cases h9; rfl) rfl 76 rfl ?_
  obtain ⟨h136, e_h136, hF⟩ := lt_e hF
  refine x_hp (h2 := h136) e_h136 ?_
  refine x_aload_n (i := 0) (b := 585) dX12_init_584 rfl rfl rfl ?_
  refine x_bipush (n := 32) (b := 587) dX12_init_585 (by decide) rfl ?_
  obtain ⟨hs, hF⟩ := ckp_e hF
  refine x_newa (r := 111) (i := 0) (N := 32) (b := 589) dX12_init_587 ak_111 (by decide) rfl rfl ki_223 rfl rfl (by decide) (fun C h9 => by cases h9) hs ⟨Nat.le_of_ble_eq_true rfl, Nat.le_of_ble_eq_true rfl⟩ rfl ?_
  obtain ⟨h137, e_h137, hF⟩ := lt_e hF
  refine x_hp (h2 := h137) e_h137 ?_
  refine x_u (u2 := (52, 7255)) rfl ?_
  refine x_putAF (b := 592) fk_X12_178 dX12_init_589 rfl rfl (fun _ _ _ h9 => by cases h9; rfl) rfl 77 rfl ?_
  obtain ⟨h138, e_h138, hF⟩ := lt_e hF
  refine x_hp (h2 := h138) e_h138 ?_
  refine x_aload_n (i := 0) (b := 593) dX12_init_592 rfl rfl rfl ?_
  refine x_bipush (n := 32) (b := 595) dX12_init_593 (by decide) rfl ?_
  obtain ⟨hs, hF⟩ := ckp_e hF
  refine x_newa (r := 112) (i := 0) (N := 32) (b := 597) dX12_init_595 ak_112 (by decide) rfl rfl ki_223 rfl rfl (by decide) (fun C h9 => by cases h9) hs ⟨Nat.le_of_ble_eq_true rfl, Nat.le_of_ble_eq_true rfl⟩ rfl ?_
  obtain ⟨h139, e_h139, hF⟩ := lt_e hF
  refine x_hp (h2 := h139) e_h139 ?_
  refine x_u (u2 := (53, 7287)) rfl ?_
  refine x_putAF (b := 600) fk_X12_181 dX12_init_597 rfl rfl (fun _ _ _ h9 => by cases h9; rfl) rfl 78 rfl ?_
  obtain ⟨h140, e_h140, hF⟩ := lt_e hF
  refine x_hp (h2 := h140) e_h140 ?_
  refine x_aload_n (i := 0) (b := 601) dX12_init_600 rfl rfl rfl ?_
  refine x_bipush (n := 32) (b := 603) dX12_init_601 (by decide) rfl ?_
  obtain ⟨hs, hF⟩ := ckp_e hF
  refine x_newa (r := 113) (i := 0) (N := 32) (b := 605) dX12_init_603 ak_113 (by decide) rfl rfl ki_758 rfl rfl (by decide) (fun C h9 => by cases h9) hs ⟨Nat.le_of_ble_eq_true rfl, Nat.le_of_ble_eq_true rfl⟩ rfl ?_
  obtain ⟨h141, e_h141, hF⟩ := lt_e hF
  refine x_hp (h2 := h141) e_h141 ?_
  refine x_u (u2 := (54, 7319)) rfl ?_
  refine x_putAF (b := 608) fk_X12_184 dX12_init_605 rfl rfl (fun _ _ _ h9 => by cases h9; rfl) rfl 79 rfl ?_
  obtain ⟨h142, e_h142, hF⟩ := lt_e hF
  refine x_hp (h2 := h142) e_h142 ?_
  refine x_aload_n (i := 0) (b := 609) dX12_init_608 rfl rfl rfl ?_
  obtain ⟨v143, h144, hq, hF⟩ := bd_e hF
  refine x_callV (as := []) (rest := []) (b := 612) (c_X12_layFar_u d h142 _ hq) dX12_init_609 cw_X12_187 ⟨_, _, rfl, Nat.le_of_ble_eq_true rfl⟩ rfl rfl (Nat.le_of_ble_eq_true rfl) ⟨Nat.le_of_ble_eq_true rfl, Nat.le_of_ble_eq_true rfl⟩ rfl (fun rv hh hp _ => ?_)
  refine x_u (u2 := (54, 7319)) rfl ?_
  obtain ⟨rfl, rfl⟩ := hp
  refine x_aload_n (i := 0) (b := 613) dX12_init_612 rfl rfl rfl ?_
  refine x_iconst (n := 0) (b := 614) dX12_init_613 (by decide) rfl ?_
  obtain ⟨v145, h146, hq, hF⟩ := bd_e hF
  refine x_callV (as := [xi 0]) (rest := []) (b := 617) (c_X12_begins_u (d + 1) 0 h144 _ hq) dX12_init_614 cw_X12_190 ⟨_, _, rfl, Nat.le_of_ble_eq_true rfl⟩ rfl rfl (Nat.le_of_ble_eq_true rfl) ⟨Nat.le_of_ble_eq_true rfl, Nat.le_of_ble_eq_true rfl⟩ rfl (fun rv hh hp _ => ?_)
  refine x_u (u2 := (54, 7319)) rfl ?_
  obtain ⟨rfl, rfl⟩ := hp
  refine x_return dX12_init_617 rfl ⟨Nat.le_of_ble_eq_true rfl, Nat.le_of_ble_eq_true rfl⟩ ?_
  cases hF
  exact ⟨rfl, rfl⟩
set_option maxHeartbeats 4000000 in
set_option maxRecDepth 100000 in
theorem u_X12_init_u (E : xE) (d : Nat) (r : Int × Hp) : ∀ n : Nat, (∀ (h : Hp), g_X12_init_u n 0 [] h = some r → X E mX12_init (d + 3) (54, 7319) (0, 0) 0 [some (xr 12 0)] [] h (PuV r)) := by
  intro n
  induction n with
  | zero => exact fun _ hF => no_e (r := r) hF
  | succ n ih => exact fun h hF => t_X12_init_u_0 E d (g_X12_init_u n) r   h hF
theorem c_X12_init_u (d : Nat) (h : Hp) (r : Int × Hp) (hF : f_X12_init_u  h = some r) : Sp mX12_init (d + 3) (54, 7319) [xr 12 0] h (PuV r) :=
  sp_of (by decide) rfl (Nat.le_of_ble_eq_true rfl) (ls := [some (xr 12 0)]) rfl (fun E _ => (u_X12_init_u E d r FU)  h hF)
