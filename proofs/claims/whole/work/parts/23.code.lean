theorem dJ0_coder_7d493_0 : decode cJ0_coder_7d493 0 = .ok (.getstatic 38, 3) := by decide +kernel
theorem dJ0_coder_7d493_3 : decode cJ0_coder_7d493 3 = .ok (.ifCond .eq 10, 3) := by decide +kernel
theorem dJ0_coder_7d493_6 : decode cJ0_coder_7d493 6 = .ok (.aload_n 0, 1) := by decide +kernel
theorem dJ0_coder_7d493_7 : decode cJ0_coder_7d493 7 = .ok (.getfield 15, 3) := by decide +kernel
theorem dJ0_coder_7d493_10 : decode cJ0_coder_7d493 10 = .ok (.goto 4, 3) := by decide +kernel
theorem dJ0_coder_7d493_13 : decode cJ0_coder_7d493 13 = .ok (.iconst 1, 1) := by decide +kernel
theorem dJ0_coder_7d493_14 : decode cJ0_coder_7d493 14 = .ok (.ireturn, 1) := by decide +kernel
noncomputable def b_J0_coder_7d493_0 (rec : Rk) (h : Hp) : Option (Int × Hp) :=
  ck (-128 ≤ (0 : Int) ∧ (0 : Int) < 128) <|
  some (0, h)
noncomputable def g_J0_coder_7d493 (n : Nat) : Rk := Nat.rec (motive := fun _ => Rk) (fun _ _ _ => none) (fun _ rec k l h => if k = 0 then b_J0_coder_7d493_0 rec  h else none) n
noncomputable def f_J0_coder_7d493 (h : Hp) : Option (Int × Hp) := g_J0_coder_7d493 FU 0 [] h
set_option maxHeartbeats 4000000 in
set_option maxRecDepth 100000 in
theorem t_J0_coder_7d493_0 (E : xE) (d : Nat) (rec : Rk) (r : Int × Hp) (h : Hp) (hL : Lay h) (hF : b_J0_coder_7d493_0 rec  h = some r) : X E mJ0_coder_7d493 (d + 1) (0, 0) (0, 0) 0 [some (xr 910 0)] [] h (PoI r) := by
  unfold b_J0_coder_7d493_0 at hF
  refine x_gsCS (b := 3) dJ0_coder_7d493_0 kx_438 rfl ?_
  refine x_if_eq (tgt := 13) (b := 6) dJ0_coder_7d493_3 (by decide) rfl (fun hc => absurd hc (by decide)) (fun hc => ?_)
  refine x_aload_n (i := 0) (b := 7) dJ0_coder_7d493_6 rfl rfl rfl ?_
  refine x_sCod (b := 10) rfl dJ0_coder_7d493_7 kx_2164 rfl ?_
  refine x_goto (tgt := 14) dJ0_coder_7d493_10 (by decide) ?_
  obtain ⟨hs, hF⟩ := ck_e hF
  refine x_breturn dJ0_coder_7d493_14 rfl ⟨Nat.le_refl _, Nat.le_refl _⟩ hs ?_
  cases hF
  exact ⟨rfl, rfl, hL⟩
set_option maxHeartbeats 4000000 in
set_option maxRecDepth 100000 in
theorem u_J0_coder_7d493 (E : xE) (d : Nat) (r : Int × Hp) : ∀ n : Nat, (∀ (h : Hp), Lay h → g_J0_coder_7d493 n 0 [] h = some r → X E mJ0_coder_7d493 (d + 1) (0, 0) (0, 0) 0 [some (xr 910 0)] [] h (PoI r)) := by
  intro n
  induction n with
  | zero => exact fun _ _ hF => no_e (r := r) hF
  | succ n ih => exact fun h hL hF => t_J0_coder_7d493_0 E d (g_J0_coder_7d493 n) r   h hL hF
theorem c_J0_coder_7d493 (d : Nat) (h : Hp) (r : Int × Hp) (hL : Lay h) (hF : f_J0_coder_7d493  h = some r) : Sp mJ0_coder_7d493 (d + 1) (0, 0) [xr 910 0] h (PoI r) :=
  sp_of (by decide) rfl (Nat.le_of_ble_eq_true rfl) (ls := [some (xr 910 0)]) rfl (fun E _ => (u_J0_coder_7d493 E d r FU)  h hL hF)
theorem dJ0_isLatin1_aae02_0 : decode cJ0_isLatin1_aae02 0 = .ok (.getstatic 38, 3) := by decide +kernel
theorem dJ0_isLatin1_aae02_3 : decode cJ0_isLatin1_aae02 3 = .ok (.ifCond .eq 14, 3) := by decide +kernel
theorem dJ0_isLatin1_aae02_6 : decode cJ0_isLatin1_aae02 6 = .ok (.aload_n 0, 1) := by decide +kernel
theorem dJ0_isLatin1_aae02_7 : decode cJ0_isLatin1_aae02 7 = .ok (.getfield 15, 3) := by decide +kernel
theorem dJ0_isLatin1_aae02_10 : decode cJ0_isLatin1_aae02 10 = .ok (.ifCond .ne 7, 3) := by decide +kernel
theorem dJ0_isLatin1_aae02_13 : decode cJ0_isLatin1_aae02 13 = .ok (.iconst 1, 1) := by decide +kernel
theorem dJ0_isLatin1_aae02_14 : decode cJ0_isLatin1_aae02 14 = .ok (.goto 4, 3) := by decide +kernel
theorem dJ0_isLatin1_aae02_17 : decode cJ0_isLatin1_aae02 17 = .ok (.iconst 0, 1) := by decide +kernel
theorem dJ0_isLatin1_aae02_18 : decode cJ0_isLatin1_aae02 18 = .ok (.ireturn, 1) := by decide +kernel
noncomputable def b_J0_isLatin1_aae02_0 (rec : Rk) (h : Hp) : Option (Int × Hp) :=
  some (1, h)
noncomputable def g_J0_isLatin1_aae02 (n : Nat) : Rk := Nat.rec (motive := fun _ => Rk) (fun _ _ _ => none) (fun _ rec k l h => if k = 0 then b_J0_isLatin1_aae02_0 rec  h else none) n
noncomputable def f_J0_isLatin1_aae02 (h : Hp) : Option (Int × Hp) := g_J0_isLatin1_aae02 FU 0 [] h
set_option maxHeartbeats 4000000 in
set_option maxRecDepth 100000 in
theorem t_J0_isLatin1_aae02_0 (E : xE) (d : Nat) (rec : Rk) (r : Int × Hp) (h : Hp) (hL : Lay h) (hF : b_J0_isLatin1_aae02_0 rec  h = some r) : X E mJ0_isLatin1_aae02 (d + 1) (0, 0) (0, 0) 0 [some (xr 910 0)] [] h (PoI r) := by
  unfold b_J0_isLatin1_aae02_0 at hF
  refine x_gsCS (b := 3) dJ0_isLatin1_aae02_0 kx_438 rfl ?_
  refine x_if_eq (tgt := 17) (b := 6) dJ0_isLatin1_aae02_3 (by decide) rfl (fun hc => absurd hc (by decide)) (fun hc => ?_)
  refine x_aload_n (i := 0) (b := 7) dJ0_isLatin1_aae02_6 rfl rfl rfl ?_
  refine x_sCod (b := 10) rfl dJ0_isLatin1_aae02_7 kx_2164 rfl ?_
  refine x_if_ne (tgt := 17) (b := 13) dJ0_isLatin1_aae02_10 (by decide) rfl (fun hc => absurd hc (by decide)) (fun hc => ?_)
  refine x_iconst (n := 1) (b := 14) dJ0_isLatin1_aae02_13 (by decide) rfl ?_
  refine x_goto (tgt := 18) dJ0_isLatin1_aae02_14 (by decide) ?_
  refine x_zreturn dJ0_isLatin1_aae02_18 rfl ⟨Nat.le_refl _, Nat.le_refl _⟩ (by decide) ?_
  cases hF
  exact ⟨rfl, rfl, hL⟩
set_option maxHeartbeats 4000000 in
set_option maxRecDepth 100000 in
theorem u_J0_isLatin1_aae02 (E : xE) (d : Nat) (r : Int × Hp) : ∀ n : Nat, (∀ (h : Hp), Lay h → g_J0_isLatin1_aae02 n 0 [] h = some r → X E mJ0_isLatin1_aae02 (d + 1) (0, 0) (0, 0) 0 [some (xr 910 0)] [] h (PoI r)) := by
  intro n
  induction n with
  | zero => exact fun _ _ hF => no_e (r := r) hF
  | succ n ih => exact fun h hL hF => t_J0_isLatin1_aae02_0 E d (g_J0_isLatin1_aae02 n) r   h hL hF
theorem c_J0_isLatin1_aae02 (d : Nat) (h : Hp) (r : Int × Hp) (hL : Lay h) (hF : f_J0_isLatin1_aae02  h = some r) : Sp mJ0_isLatin1_aae02 (d + 1) (0, 0) [xr 910 0] h (PoI r) :=
  sp_of (by decide) rfl (Nat.le_of_ble_eq_true rfl) (ls := [some (xr 910 0)]) rfl (fun E _ => (u_J0_isLatin1_aae02 E d r FU)  h hL hF)
theorem dJ0_length_8abf5_0 : decode cJ0_length_8abf5 0 = .ok (.aload_n 0, 1) := by decide +kernel
theorem dJ0_length_8abf5_1 : decode cJ0_length_8abf5 1 = .ok (.getfield 9, 3) := by decide +kernel
theorem dJ0_length_8abf5_4 : decode cJ0_length_8abf5 4 = .ok (.arraylength, 1) := by decide +kernel
theorem dJ0_length_8abf5_5 : decode cJ0_length_8abf5 5 = .ok (.aload_n 0, 1) := by decide +kernel
theorem dJ0_length_8abf5_6 : decode cJ0_length_8abf5 6 = .ok (.invokevirtual 335, 3) := by decide +kernel
theorem dJ0_length_8abf5_9 : decode cJ0_length_8abf5 9 = .ok (.ishr, 1) := by decide +kernel
theorem dJ0_length_8abf5_10 : decode cJ0_length_8abf5 10 = .ok (.ireturn, 1) := by decide +kernel
noncomputable def b_J0_length_8abf5_0 (rec : Rk) (h : Hp) : Option (Int × Hp) :=
  bd (f_J0_coder_7d493 h) fun v1 h2 =>
  some (bshr 138 v1, h2)
noncomputable def g_J0_length_8abf5 (n : Nat) : Rk := Nat.rec (motive := fun _ => Rk) (fun _ _ _ => none) (fun _ rec k l h => if k = 0 then b_J0_length_8abf5_0 rec  h else none) n
noncomputable def f_J0_length_8abf5 (h : Hp) : Option (Int × Hp) := g_J0_length_8abf5 FU 0 [] h
set_option maxHeartbeats 4000000 in
set_option maxRecDepth 100000 in
theorem t_J0_length_8abf5_0 (E : xE) (d : Nat) (rec : Rk) (r : Int × Hp) (h : Hp) (hL : Lay h) (hF : b_J0_length_8abf5_0 rec  h = some r) : X E mJ0_length_8abf5 (d + 2) (0, 0) (0, 0) 0 [some (xr 910 0)] [] h (PoI r) := by
  unfold b_J0_length_8abf5_0 at hF
  refine x_aload_n (i := 0) (b := 1) dJ0_length_8abf5_0 rfl rfl rfl ?_
  refine x_sVal (b := 4) rfl dJ0_length_8abf5_1 kx_2163 rfl ?_
  refine x_alenS (v := 138) (b := 5) dJ0_length_8abf5_4 rfl rfl ?_
  refine x_aload_n (i := 0) (b := 6) dJ0_length_8abf5_5 rfl rfl rfl ?_
  obtain ⟨v1, h2, hq, hF⟩ := bd_e hF
  refine x_callVS (as := []) (rest := [xi 138]) (b := 9) (c_J0_coder_7d493 d h _ hL hq) rfl dJ0_length_8abf5_6 cx_J0_335 rfl rfl (Nat.le_of_ble_eq_true rfl) ⟨Nat.le_refl _, Nat.le_refl _⟩ rfl (fun rv hh hp _ => ?_)
  obtain ⟨rfl, rfl, hL⟩ := hp
  refine x_ishr (b := 10) dJ0_length_8abf5_9 rfl ?_
  refine x_ireturn dJ0_length_8abf5_10 rfl ⟨Nat.le_refl _, Nat.le_refl _⟩ ?_
  cases hF
  exact ⟨rfl, rfl, hL⟩
set_option maxHeartbeats 4000000 in
set_option maxRecDepth 100000 in
theorem u_J0_length_8abf5 (E : xE) (d : Nat) (r : Int × Hp) : ∀ n : Nat, (∀ (h : Hp), Lay h → g_J0_length_8abf5 n 0 [] h = some r → X E mJ0_length_8abf5 (d + 2) (0, 0) (0, 0) 0 [some (xr 910 0)] [] h (PoI r)) := by
  intro n
  induction n with
  | zero => exact fun _ _ hF => no_e (r := r) hF
  | succ n ih => exact fun h hL hF => t_J0_length_8abf5_0 E d (g_J0_length_8abf5 n) r   h hL hF
theorem c_J0_length_8abf5 (d : Nat) (h : Hp) (r : Int × Hp) (hL : Lay h) (hF : f_J0_length_8abf5  h = some r) : Sp mJ0_length_8abf5 (d + 2) (0, 0) [xr 910 0] h (PoI r) :=
  sp_of (by decide) rfl (Nat.le_of_ble_eq_true rfl) (ls := [some (xr 910 0)]) rfl (fun E _ => (u_J0_length_8abf5 E d r FU)  h hL hF)
theorem dJ1_charAt_3b067_0 : decode cJ1_charAt_3b067 0 = .ok (.iload_n 1, 1) := by decide +kernel
theorem dJ1_charAt_3b067_1 : decode cJ1_charAt_3b067 1 = .ok (.aload_n 0, 1) := by decide +kernel
theorem dJ1_charAt_3b067_2 : decode cJ1_charAt_3b067 2 = .ok (.arraylength, 1) := by decide +kernel
theorem dJ1_charAt_3b067_3 : decode cJ1_charAt_3b067 3 = .ok (.invokestatic 9, 3) := by decide +kernel
theorem dJ1_charAt_3b067_6 : decode cJ1_charAt_3b067 6 = .ok (.aload_n 0, 1) := by decide +kernel
theorem dJ1_charAt_3b067_7 : decode cJ1_charAt_3b067 7 = .ok (.iload_n 1, 1) := by decide +kernel
theorem dJ1_charAt_3b067_8 : decode cJ1_charAt_3b067 8 = .ok (.baload, 1) := by decide +kernel
theorem dJ1_charAt_3b067_9 : decode cJ1_charAt_3b067 9 = .ok (.sipush 255, 3) := by decide +kernel
theorem dJ1_charAt_3b067_12 : decode cJ1_charAt_3b067 12 = .ok (.iand, 1) := by decide +kernel
theorem dJ1_charAt_3b067_13 : decode cJ1_charAt_3b067 13 = .ok (.i2c, 1) := by decide +kernel
theorem dJ1_charAt_3b067_14 : decode cJ1_charAt_3b067 14 = .ok (.ireturn, 1) := by decide +kernel
noncomputable def b_J1_charAt_3b067_0 (rec : Rk) (x1 : Int) (h : Hp) : Option (Int × Hp) :=
  bd (f_J0_checkIndex_df160 x1 138 h) fun v1 h2 =>
  ck (0 ≤ x1 ∧ x1 < 138) <|
  ck (0 ≤ (band (xTb.getD (x1).toNat 0) 255) ∧ (band (xTb.getD (x1).toNat 0) 255) < 65536) <|
  ck (0 ≤ (band (xTb.getD (x1).toNat 0) 255) ∧ (band (xTb.getD (x1).toNat 0) 255) < 65536) <|
  some (band (xTb.getD (x1).toNat 0) 255, h2)
noncomputable def g_J1_charAt_3b067 (n : Nat) : Rk := Nat.rec (motive := fun _ => Rk) (fun _ _ _ => none) (fun _ rec k l h => if k = 0 then b_J1_charAt_3b067_0 rec (l.getD 0 0) h else none) n
noncomputable def f_J1_charAt_3b067 (x1 : Int) (h : Hp) : Option (Int × Hp) := g_J1_charAt_3b067 FU 0 [x1] h
set_option maxHeartbeats 4000000 in
set_option maxRecDepth 100000 in
theorem t_J1_charAt_3b067_0 (E : xE) (d : Nat) (rec : Rk) (r : Int × Hp) (x1 : Int) (h : Hp) (hL : Lay h) (hF : b_J1_charAt_3b067_0 rec x1 h = some r) : X E mJ1_charAt_3b067 (d + 3) (0, 0) (0, 0) 0 [some (xr 911 0), some (xi x1)] [] h (PoI r) := by
  unfold b_J1_charAt_3b067_0 at hF
  refine x_iload_n (i := 1) (b := 1) dJ1_charAt_3b067_0 rfl rfl rfl ?_
  refine x_aload_n (i := 0) (b := 2) dJ1_charAt_3b067_1 rfl rfl rfl ?_
  refine x_alenS (v := 138) (b := 3) dJ1_charAt_3b067_2 rfl rfl ?_
  obtain ⟨v1, h2, hq, hF⟩ := bd_e hF
  refine x_callS (as := [xi x1, xi 138]) (rest := []) (b := 6) (c_J0_checkIndex_df160 d x1 138 h _ hL hq) dJ1_charAt_3b067_3 cx_J1_9 rfl rfl (Nat.le_of_ble_eq_true rfl) ⟨Nat.le_refl _, Nat.le_refl _⟩ rfl (fun rv hh hp _ => ?_)
  obtain ⟨rfl, rfl, hL⟩ := hp
  refine x_aload_n (i := 0) (b := 7) dJ1_charAt_3b067_6 rfl rfl rfl ?_
  refine x_iload_n (i := 1) (b := 8) dJ1_charAt_3b067_7 rfl rfl rfl ?_
  obtain ⟨hs, hF⟩ := ck_e hF
  refine x_baldS (v := xTb.getD (x1).toNat 0) (b := 9) dJ1_charAt_3b067_8 hs rfl rfl ?_
  refine x_sipush (n := 255) (b := 12) dJ1_charAt_3b067_9 (by decide) rfl ?_
  refine x_iand (b := 13) dJ1_charAt_3b067_12 rfl ?_
  obtain ⟨hs, hF⟩ := ck_e hF
  refine x_i2c (b := 14) dJ1_charAt_3b067_13 hs rfl ?_
  obtain ⟨hs, hF⟩ := ck_e hF
  refine x_creturn dJ1_charAt_3b067_14 rfl ⟨Nat.le_refl _, Nat.le_refl _⟩ hs ?_
  cases hF
  exact ⟨rfl, rfl, hL⟩
set_option maxHeartbeats 4000000 in
set_option maxRecDepth 100000 in
theorem u_J1_charAt_3b067 (E : xE) (d : Nat) (r : Int × Hp) : ∀ n : Nat, (∀ (x1 : Int) (h : Hp), Lay h → g_J1_charAt_3b067 n 0 [x1] h = some r → X E mJ1_charAt_3b067 (d + 3) (0, 0) (0, 0) 0 [some (xr 911 0), some (xi x1)] [] h (PoI r)) := by
  intro n
  induction n with
  | zero => exact fun _ _ _ hF => no_e (r := r) hF
  | succ n ih => exact fun x1 h hL hF => t_J1_charAt_3b067_0 E d (g_J1_charAt_3b067 n) r  x1 h hL hF
theorem c_J1_charAt_3b067 (d : Nat) (x1 : Int) (h : Hp) (r : Int × Hp) (hL : Lay h) (hF : f_J1_charAt_3b067 x1 h = some r) : Sp mJ1_charAt_3b067 (d + 3) (0, 0) [xr 911 0, xi x1] h (PoI r) :=
  sp_of (by decide) rfl (Nat.le_of_ble_eq_true rfl) (ls := [some (xr 911 0), some (xi x1)]) rfl (fun E _ => (u_J1_charAt_3b067 E d r FU) x1 h hL hF)
theorem dJ0_charAt_5068e_0 : decode cJ0_charAt_5068e 0 = .ok (.aload_n 0, 1) := by decide +kernel
theorem dJ0_charAt_5068e_1 : decode cJ0_charAt_5068e 1 = .ok (.invokevirtual 492, 3) := by decide +kernel
theorem dJ0_charAt_5068e_4 : decode cJ0_charAt_5068e 4 = .ok (.ifCond .eq 12, 3) := by decide +kernel
theorem dJ0_charAt_5068e_7 : decode cJ0_charAt_5068e 7 = .ok (.aload_n 0, 1) := by decide +kernel
theorem dJ0_charAt_5068e_8 : decode cJ0_charAt_5068e 8 = .ok (.getfield 9, 3) := by decide +kernel
theorem dJ0_charAt_5068e_11 : decode cJ0_charAt_5068e 11 = .ok (.iload_n 1, 1) := by decide +kernel
theorem dJ0_charAt_5068e_12 : decode cJ0_charAt_5068e 12 = .ok (.invokestatic 495, 3) := by decide +kernel
theorem dJ0_charAt_5068e_15 : decode cJ0_charAt_5068e 15 = .ok (.ireturn, 1) := by decide +kernel
theorem dJ0_charAt_5068e_16 : decode cJ0_charAt_5068e 16 = .ok (.aload_n 0, 1) := by decide +kernel
theorem dJ0_charAt_5068e_17 : decode cJ0_charAt_5068e 17 = .ok (.getfield 9, 3) := by decide +kernel
theorem dJ0_charAt_5068e_20 : decode cJ0_charAt_5068e 20 = .ok (.iload_n 1, 1) := by decide +kernel
theorem dJ0_charAt_5068e_21 : decode cJ0_charAt_5068e 21 = .ok (.invokestatic 498, 3) := by decide +kernel
theorem dJ0_charAt_5068e_24 : decode cJ0_charAt_5068e 24 = .ok (.ireturn, 1) := by decide +kernel
noncomputable def b_J0_charAt_5068e_0 (rec : Rk) (x1 : Int) (h : Hp) : Option (Int × Hp) :=
  bd (f_J0_isLatin1_aae02 h) fun v1 h2 =>
  if v1 = 0 then (
    none
  ) else (
    bd (f_J1_charAt_3b067 x1 h2) fun v3 h4 =>
    ck (0 ≤ v3 ∧ v3 < 65536) <|
    some (v3, h4)
  )
noncomputable def g_J0_charAt_5068e (n : Nat) : Rk := Nat.rec (motive := fun _ => Rk) (fun _ _ _ => none) (fun _ rec k l h => if k = 0 then b_J0_charAt_5068e_0 rec (l.getD 0 0) h else none) n
noncomputable def f_J0_charAt_5068e (x1 : Int) (h : Hp) : Option (Int × Hp) := g_J0_charAt_5068e FU 0 [x1] h
set_option maxHeartbeats 4000000 in
set_option maxRecDepth 100000 in
theorem t_J0_charAt_5068e_0 (E : xE) (d : Nat) (rec : Rk) (r : Int × Hp) (x1 : Int) (h : Hp) (hL : Lay h) (hF : b_J0_charAt_5068e_0 rec x1 h = some r) : X E mJ0_charAt_5068e (d + 4) (0, 0) (0, 0) 0 [some (xr 910 0), some (xi x1)] [] h (PoI r) := by
  unfold b_J0_charAt_5068e_0 at hF
  refine x_aload_n (i := 0) (b := 1) dJ0_charAt_5068e_0 rfl rfl rfl ?_
  obtain ⟨v1, h2, hq, hF⟩ := bd_e hF
  refine x_callVS (as := []) (rest := []) (b := 4) (c_J0_isLatin1_aae02 (d + 2) h _ hL hq) rfl dJ0_charAt_5068e_1 cx_J0_492 rfl rfl (Nat.le_of_ble_eq_true rfl) ⟨Nat.le_refl _, Nat.le_refl _⟩ rfl (fun rv hh hp _ => ?_)
  obtain ⟨rfl, rfl, hL⟩ := hp
  refine x_if_eq (tgt := 16) (b := 7) dJ0_charAt_5068e_4 (by decide) rfl (fun hc => ?_) (fun hc => ?_)
  · replace hF := br_T hc hF
    refine x_aload_n (i := 0) (b := 17) dJ0_charAt_5068e_16 rfl rfl rfl ?_
    refine x_sVal (b := 20) rfl dJ0_charAt_5068e_17 kx_2163 rfl ?_
    refine x_iload_n (i := 1) (b := 21) dJ0_charAt_5068e_20 rfl rfl rfl ?_
    exact no_e hF
  · replace hF := br_F hc hF
    refine x_aload_n (i := 0) (b := 8) dJ0_charAt_5068e_7 rfl rfl rfl ?_
    refine x_sVal (b := 11) rfl dJ0_charAt_5068e_8 kx_2163 rfl ?_
    refine x_iload_n (i := 1) (b := 12) dJ0_charAt_5068e_11 rfl rfl rfl ?_
    obtain ⟨v3, h4, hq, hF⟩ := bd_e hF
    refine x_callS (as := [xr 911 0, xi x1]) (rest := []) (b := 15) (c_J1_charAt_3b067 d x1 h2 _ hL hq) dJ0_charAt_5068e_12 cx_J0_495 rfl rfl (Nat.le_of_ble_eq_true rfl) ⟨Nat.le_refl _, Nat.le_refl _⟩ rfl (fun rv hh hp _ => ?_)
    obtain ⟨rfl, rfl, hL⟩ := hp
    obtain ⟨hs, hF⟩ := ck_e hF
    refine x_creturn dJ0_charAt_5068e_15 rfl ⟨Nat.le_refl _, Nat.le_refl _⟩ hs ?_
    cases hF
    exact ⟨rfl, rfl, hL⟩
set_option maxHeartbeats 4000000 in
set_option maxRecDepth 100000 in
theorem u_J0_charAt_5068e (E : xE) (d : Nat) (r : Int × Hp) : ∀ n : Nat, (∀ (x1 : Int) (h : Hp), Lay h → g_J0_charAt_5068e n 0 [x1] h = some r → X E mJ0_charAt_5068e (d + 4) (0, 0) (0, 0) 0 [some (xr 910 0), some (xi x1)] [] h (PoI r)) := by
  intro n
  induction n with
  | zero => exact fun _ _ _ hF => no_e (r := r) hF
  | succ n ih => exact fun x1 h hL hF => t_J0_charAt_5068e_0 E d (g_J0_charAt_5068e n) r  x1 h hL hF
theorem c_J0_charAt_5068e (d : Nat) (x1 : Int) (h : Hp) (r : Int × Hp) (hL : Lay h) (hF : f_J0_charAt_5068e x1 h = some r) : Sp mJ0_charAt_5068e (d + 4) (0, 0) [xr 910 0, xi x1] h (PoI r) :=
  sp_of (by decide) rfl (Nat.le_of_ble_eq_true rfl) (ls := [some (xr 910 0), some (xi x1)]) rfl (fun E _ => (u_J0_charAt_5068e E d r FU) x1 h hL hF)
theorem dX12_word_0 : decode cX12_word 0 = .ok (.iconst 0, 1) := by decide +kernel
theorem dX12_word_1 : decode cX12_word 1 = .ok (.istore_n 1, 1) := by decide +kernel
theorem dX12_word_2 : decode cX12_word 2 = .ok (.iconst 0, 1) := by decide +kernel
theorem dX12_word_3 : decode cX12_word 3 = .ok (.istore_n 2, 1) := by decide +kernel
theorem dX12_word_4 : decode cX12_word 4 = .ok (.iload_n 2, 1) := by decide +kernel
theorem dX12_word_5 : decode cX12_word 5 = .ok (.ldc 236, 2) := by decide +kernel
theorem dX12_word_7 : decode cX12_word 7 = .ok (.invokevirtual 238, 3) := by decide +kernel
theorem dX12_word_10 : decode cX12_word 10 = .ok (.if_icmp .ge 113, 3) := by decide +kernel
theorem dX12_word_13 : decode cX12_word 13 = .ok (.iconst 0, 1) := by decide +kernel
theorem dX12_word_14 : decode cX12_word 14 = .ok (.istore_n 3, 1) := by decide +kernel
theorem dX12_word_15 : decode cX12_word 15 = .ok (.ldc 236, 2) := by decide +kernel
theorem dX12_word_17 : decode cX12_word 17 = .ok (.iload_n 2, 1) := by decide +kernel
theorem dX12_word_18 : decode cX12_word 18 = .ok (.iload_n 3, 1) := by decide +kernel
theorem dX12_word_19 : decode cX12_word 19 = .ok (.iadd, 1) := by decide +kernel
theorem dX12_word_20 : decode cX12_word 20 = .ok (.invokevirtual 243, 3) := by decide +kernel
theorem dX12_word_23 : decode cX12_word 23 = .ok (.bipush 32, 2) := by decide +kernel
theorem dX12_word_25 : decode cX12_word 25 = .ok (.if_icmp .eq 44, 3) := by decide +kernel
theorem dX12_word_28 : decode cX12_word 28 = .ok (.aload_n 0, 1) := by decide +kernel
theorem dX12_word_29 : decode cX12_word 29 = .ok (.getfield 210, 3) := by decide +kernel
theorem dX12_word_32 : decode cX12_word 32 = .ok (.iload_n 3, 1) := by decide +kernel
theorem dX12_word_33 : decode cX12_word 33 = .ok (.iadd, 1) := by decide +kernel
theorem dX12_word_34 : decode cX12_word 34 = .ok (.aload_n 0, 1) := by decide +kernel
theorem dX12_word_35 : decode cX12_word 35 = .ok (.getfield 200, 3) := by decide +kernel
theorem dX12_word_38 : decode cX12_word 38 = .ok (.if_icmp .ge 31, 3) := by decide +kernel
theorem dX12_word_41 : decode cX12_word 41 = .ok (.aload_n 0, 1) := by decide +kernel
theorem dX12_word_42 : decode cX12_word 42 = .ok (.getfield 7, 3) := by decide +kernel
theorem dX12_word_45 : decode cX12_word 45 = .ok (.aload_n 0, 1) := by decide +kernel
theorem dX12_word_46 : decode cX12_word 46 = .ok (.getfield 210, 3) := by decide +kernel
theorem dX12_word_49 : decode cX12_word 49 = .ok (.iload_n 3, 1) := by decide +kernel
theorem dX12_word_50 : decode cX12_word 50 = .ok (.iadd, 1) := by decide +kernel
theorem dX12_word_51 : decode cX12_word 51 = .ok (.iaload, 1) := by decide +kernel
theorem dX12_word_52 : decode cX12_word 52 = .ok (.ldc 236, 2) := by decide +kernel
theorem dX12_word_54 : decode cX12_word 54 = .ok (.iload_n 2, 1) := by decide +kernel
theorem dX12_word_55 : decode cX12_word 55 = .ok (.iload_n 3, 1) := by decide +kernel
theorem dX12_word_56 : decode cX12_word 56 = .ok (.iadd, 1) := by decide +kernel
theorem dX12_word_57 : decode cX12_word 57 = .ok (.invokevirtual 243, 3) := by decide +kernel
theorem dX12_word_60 : decode cX12_word 60 = .ok (.if_icmp .ne 9, 3) := by decide +kernel
theorem dX12_word_63 : decode cX12_word 63 = .ok (.iinc 3 1, 3) := by decide +kernel
theorem dX12_word_66 : decode cX12_word 66 = .ok (.goto (-51), 3) := by decide +kernel
theorem dX12_word_69 : decode cX12_word 69 = .ok (.ldc 236, 2) := by decide +kernel
theorem dX12_word_71 : decode cX12_word 71 = .ok (.iload_n 2, 1) := by decide +kernel
theorem dX12_word_72 : decode cX12_word 72 = .ok (.iload_n 3, 1) := by decide +kernel
theorem dX12_word_73 : decode cX12_word 73 = .ok (.iadd, 1) := by decide +kernel
theorem dX12_word_74 : decode cX12_word 74 = .ok (.invokevirtual 243, 3) := by decide +kernel
theorem dX12_word_77 : decode cX12_word 77 = .ok (.bipush 32, 2) := by decide +kernel
theorem dX12_word_79 : decode cX12_word 79 = .ok (.if_icmp .ne 18, 3) := by decide +kernel
theorem dX12_word_82 : decode cX12_word 82 = .ok (.aload_n 0, 1) := by decide +kernel
theorem dX12_word_83 : decode cX12_word 83 = .ok (.getfield 210, 3) := by decide +kernel
theorem dX12_word_86 : decode cX12_word 86 = .ok (.iload_n 3, 1) := by decide +kernel
theorem dX12_word_87 : decode cX12_word 87 = .ok (.iadd, 1) := by decide +kernel
theorem dX12_word_88 : decode cX12_word 88 = .ok (.aload_n 0, 1) := by decide +kernel
theorem dX12_word_89 : decode cX12_word 89 = .ok (.getfield 200, 3) := by decide +kernel
theorem dX12_word_92 : decode cX12_word 92 = .ok (.if_icmp .ne 5, 3) := by decide +kernel
theorem dX12_word_95 : decode cX12_word 95 = .ok (.iload_n 1, 1) := by decide +kernel
theorem dX12_word_96 : decode cX12_word 96 = .ok (.ireturn, 1) := by decide +kernel
theorem dX12_word_97 : decode cX12_word 97 = .ok (.ldc 236, 2) := by decide +kernel
theorem dX12_word_99 : decode cX12_word 99 = .ok (.iload_n 2, 1) := by decide +kernel
theorem dX12_word_100 : decode cX12_word 100 = .ok (.invokevirtual 243, 3) := by decide +kernel
theorem dX12_word_103 : decode cX12_word 103 = .ok (.bipush 32, 2) := by decide +kernel
theorem dX12_word_105 : decode cX12_word 105 = .ok (.if_icmp .eq 9, 3) := by decide +kernel
theorem dX12_word_108 : decode cX12_word 108 = .ok (.iinc 2 1, 3) := by decide +kernel
theorem dX12_word_111 : decode cX12_word 111 = .ok (.goto (-14), 3) := by decide +kernel
theorem dX12_word_114 : decode cX12_word 114 = .ok (.iinc 2 1, 3) := by decide +kernel
theorem dX12_word_117 : decode cX12_word 117 = .ok (.iinc 1 1, 3) := by decide +kernel
theorem dX12_word_120 : decode cX12_word 120 = .ok (.goto (-116), 3) := by decide +kernel
theorem dX12_word_123 : decode cX12_word 123 = .ok (.iconst (-1), 1) := by decide +kernel
theorem dX12_word_124 : decode cX12_word 124 = .ok (.ireturn, 1) := by decide +kernel
noncomputable def b_X12_word_0 (rec : Rk) (h : Hp) : Option (Int × Hp) :=
  rec 1 [0, 0] h
noncomputable def b_X12_word_1 (rec : Rk) (x1 x2 : Int) (h : Hp) : Option (Int × Hp) :=
  bd (f_J0_length_8abf5 h) fun v1 h2 =>
  if v1 ≤ x2 then (
    some ((-1), h2)
  ) else (
    rec 2 [x1, x2, 0] h2
  )
noncomputable def b_X12_word_2 (rec : Rk) (x1 x2 x3 : Int) (h : Hp) : Option (Int × Hp) :=
  ck (-2147483648 ≤ x2 + x3 ∧ x2 + x3 < 2147483648) <|
  bd (f_J0_charAt_5068e (x2 + x3) h) fun v1 h2 =>
  if v1 = 32 then (
    rec 3 [x1, x2, x3] h2
  ) else (
    ck (-2147483648 ≤ (gI h2 12 0 29) + x3 ∧ (gI h2 12 0 29) + x3 < 2147483648) <|
    if (gI h2 12 0 28) ≤ ((gI h2 12 0 29) + x3) then (
      rec 3 [x1, x2, x3] h2
    ) else (
      ck (-2147483648 ≤ (gI h2 12 0 29) + x3 ∧ (gI h2 12 0 29) + x3 < 2147483648) <|
      ck (0 ≤ ((gI h2 12 0 29) + x3) ∧ ((gI h2 12 0 29) + x3) < 800) <|
      ck (-2147483648 ≤ x2 + x3 ∧ x2 + x3 < 2147483648) <|
      bd (f_J0_charAt_5068e (x2 + x3) h2) fun v3 h4 =>
      if (gI h2 60 0 ((gI h2 12 0 29) + x3)) = v3 then (
        ck (-2147483648 ≤ x3 + 1 ∧ x3 + 1 < 2147483648) <|
        rec 2 [x1, x2, x3 + 1] h4
      ) else (
        rec 3 [x1, x2, x3] h4
      )
    )
  )
noncomputable def b_X12_word_3 (rec : Rk) (x1 x2 x3 : Int) (h : Hp) : Option (Int × Hp) :=
  ck (-2147483648 ≤ x2 + x3 ∧ x2 + x3 < 2147483648) <|
  bd (f_J0_charAt_5068e (x2 + x3) h) fun v1 h2 =>
  if v1 = 32 then (
    ck (-2147483648 ≤ (gI h2 12 0 29) + x3 ∧ (gI h2 12 0 29) + x3 < 2147483648) <|
    if ((gI h2 12 0 29) + x3) = (gI h2 12 0 28) then (
      some (x1, h2)
    ) else (
      rec 4 [x1, x2] h2
    )
  ) else (
    rec 4 [x1, x2] h2
  )
noncomputable def b_X12_word_4 (rec : Rk) (x1 x2 : Int) (h : Hp) : Option (Int × Hp) :=
  bd (f_J0_charAt_5068e x2 h) fun v1 h2 =>
  if v1 = 32 then (
    ck (-2147483648 ≤ x2 + 1 ∧ x2 + 1 < 2147483648) <|
    ck (-2147483648 ≤ x1 + 1 ∧ x1 + 1 < 2147483648) <|
    rec 1 [x1 + 1, x2 + 1] h2
  ) else (
    ck (-2147483648 ≤ x2 + 1 ∧ x2 + 1 < 2147483648) <|
    rec 4 [x1, x2 + 1] h2
  )
noncomputable def g_X12_word (n : Nat) : Rk := Nat.rec (motive := fun _ => Rk) (fun _ _ _ => none) (fun _ rec k l h => if k = 0 then b_X12_word_0 rec  h else if k = 1 then b_X12_word_1 rec (l.getD 0 0) (l.getD 1 0) h else if k = 2 then b_X12_word_2 rec (l.getD 0 0) (l.getD 1 0) (l.getD 2 0) h else if k = 3 then b_X12_word_3 rec (l.getD 0 0) (l.getD 1 0) (l.getD 2 0) h else if k = 4 then b_X12_word_4 rec (l.getD 0 0) (l.getD 1 0) h else none) n
noncomputable def f_X12_word (h : Hp) : Option (Int × Hp) := g_X12_word FU 0 [] h
set_option maxHeartbeats 4000000 in
set_option maxRecDepth 100000 in
theorem t_X12_word_0 (E : xE) (d : Nat) (rec : Rk) (r : Int × Hp) (hr_4 : ∀ (x1 x2 : Int) (h : Hp), Lay h → rec 1 [x1, x2] h = some r → X E mX12_word (d + 5) (0, 0) (0, 0) 4 [some (xr 12 0), some (xi x1), some (xi x2), none] [] h (PoI r)) (h : Hp) (hL : Lay h) (hF : b_X12_word_0 rec  h = some r) : X E mX12_word (d + 5) (0, 0) (0, 0) 0 [some (xr 12 0), none, none, none] [] h (PoI r) := by
  unfold b_X12_word_0 at hF
  refine x_iconst (n := 0) (b := 1) dX12_word_0 (by decide) rfl ?_
  refine x_istore_n (i := 1) (b := 2) (ls2 := [some (xr 12 0), some (xi 0), none, none]) dX12_word_1 rfl (Nat.le_of_ble_eq_true rfl) rfl rfl ?_
  refine x_iconst (n := 0) (b := 3) dX12_word_2 (by decide) rfl ?_
  refine x_istore_n (i := 2) (b := 4) (ls2 := [some (xr 12 0), some (xi 0), some (xi 0), none]) dX12_word_3 rfl (Nat.le_of_ble_eq_true rfl) rfl rfl ?_
  exact x_dp (ls2 := [some (xr 12 0), some (xi 0), some (xi 0), none]) ⟨rfl, rfl, rfl, trivial⟩ (hr_4 0 0 h hL hF)
set_option maxHeartbeats 4000000 in
set_option maxRecDepth 100000 in
theorem t_X12_word_1 (E : xE) (d : Nat) (rec : Rk) (r : Int × Hp) (hr_15 : ∀ (x1 x2 x3 : Int) (h : Hp), Lay h → rec 2 [x1, x2, x3] h = some r → X E mX12_word (d + 5) (0, 0) (0, 0) 15 [some (xr 12 0), some (xi x1), some (xi x2), some (xi x3)] [] h (PoI r)) (x1 x2 : Int) (h : Hp) (hL : Lay h) (hF : b_X12_word_1 rec x1 x2 h = some r) : X E mX12_word (d + 5) (0, 0) (0, 0) 4 [some (xr 12 0), some (xi x1), some (xi x2), none] [] h (PoI r) := by
  unfold b_X12_word_1 at hF
  refine x_iload_n (i := 2) (b := 5) dX12_word_4 rfl rfl rfl ?_
  refine x_ldcS12 (b := 7) rfl dX12_word_5 rfl ?_
  obtain ⟨v1, h2, hq, hF⟩ := bd_e hF
  refine x_callVS (as := []) (rest := [xi x2]) (b := 10) (c_J0_length_8abf5 (d + 2) h _ hL hq) rfl dX12_word_7 cx_X12_238 rfl rfl (Nat.le_of_ble_eq_true rfl) ⟨Nat.le_refl _, Nat.le_refl _⟩ rfl (fun rv hh hp _ => ?_)
  obtain ⟨rfl, rfl, hL⟩ := hp
  refine x_icmp_ge (tgt := 123) (b := 13) dX12_word_10 (by decide) rfl (fun hc => ?_) (fun hc => ?_)
  · replace hF := br_T hc hF
    refine x_iconst (n := (-1)) (b := 124) dX12_word_123 (by decide) rfl ?_
    refine x_ireturn dX12_word_124 rfl ⟨Nat.le_refl _, Nat.le_refl _⟩ ?_
    cases hF
    exact ⟨rfl, rfl, hL⟩
  · replace hF := br_F hc hF
    refine x_iconst (n := 0) (b := 14) dX12_word_13 (by decide) rfl ?_
    refine x_istore_n (i := 3) (b := 15) (ls2 := [some (xr 12 0), some (xi x1), some (xi x2), some (xi 0)]) dX12_word_14 rfl (Nat.le_of_ble_eq_true rfl) rfl rfl ?_
    exact x_dp (ls2 := [some (xr 12 0), some (xi x1), some (xi x2), some (xi 0)]) ⟨rfl, rfl, rfl, rfl, trivial⟩ (hr_15 x1 x2 0 h2 hL hF)
set_option maxHeartbeats 4000000 in
set_option maxRecDepth 100000 in
theorem t_X12_word_2 (E : xE) (d : Nat) (rec : Rk) (r : Int × Hp) (hr_15 : ∀ (x1 x2 x3 : Int) (h : Hp), Lay h → rec 2 [x1, x2, x3] h = some r → X E mX12_word (d + 5) (0, 0) (0, 0) 15 [some (xr 12 0), some (xi x1), some (xi x2), some (xi x3)] [] h (PoI r)) (hr_69 : ∀ (x1 x2 x3 : Int) (h : Hp), Lay h → rec 3 [x1, x2, x3] h = some r → X E mX12_word (d + 5) (0, 0) (0, 0) 69 [some (xr 12 0), some (xi x1), some (xi x2), some (xi x3)] [] h (PoI r)) (x1 x2 x3 : Int) (h : Hp) (hL : Lay h) (hF : b_X12_word_2 rec x1 x2 x3 h = some r) : X E mX12_word (d + 5) (0, 0) (0, 0) 15 [some (xr 12 0), some (xi x1), some (xi x2), some (xi x3)] [] h (PoI r) := by
  unfold b_X12_word_2 at hF
  refine x_ldcS12 (b := 17) rfl dX12_word_15 rfl ?_
  refine x_iload_n (i := 2) (b := 18) dX12_word_17 rfl rfl rfl ?_
  refine x_iload_n (i := 3) (b := 19) dX12_word_18 rfl rfl rfl ?_
  obtain ⟨hs, hF⟩ := ck_e hF
  refine x_iadd (b := 20) dX12_word_19 hs rfl ?_
  obtain ⟨v1, h2, hq, hF⟩ := bd_e hF
  refine x_callVS (as := [xi (x2 + x3)]) (rest := []) (b := 23) (c_J0_charAt_5068e d (x2 + x3) h _ hL hq) rfl dX12_word_20 cx_X12_243 rfl rfl (Nat.le_of_ble_eq_true rfl) ⟨Nat.le_refl _, Nat.le_refl _⟩ rfl (fun rv hh hp _ => ?_)
  obtain ⟨rfl, rfl, hL⟩ := hp
  refine x_bipush (n := 32) (b := 25) dX12_word_23 (by decide) rfl ?_
  refine x_icmp_eq (tgt := 69) (b := 28) dX12_word_25 (by decide) rfl (fun hc => ?_) (fun hc => ?_)
  · replace hF := br_T hc hF
    exact x_dp (ls2 := [some (xr 12 0), some (xi x1), some (xi x2), some (xi x3)]) ⟨rfl, rfl, rfl, rfl, trivial⟩ (hr_69 x1 x2 x3 h2 hL hF)
  · replace hF := br_F hc hF
    refine x_aload_n (i := 0) (b := 29) dX12_word_28 rfl rfl rfl ?_
    refine x_getI (v := gI h2 12 0 29) (b := 32) fk_X12_210 dX12_word_29 (by decide) rfl rfl ?_
    refine x_iload_n (i := 3) (b := 33) dX12_word_32 rfl rfl rfl ?_
    obtain ⟨hs, hF⟩ := ck_e hF
    refine x_iadd (b := 34) dX12_word_33 hs rfl ?_
    refine x_aload_n (i := 0) (b := 35) dX12_word_34 rfl rfl rfl ?_
    refine x_getI (v := gI h2 12 0 28) (b := 38) fk_X12_200 dX12_word_35 (by decide) rfl rfl ?_
    refine x_icmp_ge (tgt := 69) (b := 41) dX12_word_38 (by decide) rfl (fun hc => ?_) (fun hc => ?_)
    · replace hF := br_T hc hF
      exact x_dp (ls2 := [some (xr 12 0), some (xi x1), some (xi x2), some (xi x3)]) ⟨rfl, rfl, rfl, rfl, trivial⟩ (hr_69 x1 x2 x3 h2 hL hF)
    · replace hF := br_F hc hF
      refine x_aload_n (i := 0) (b := 42) dX12_word_41 rfl rfl rfl ?_
      refine x_getL (j := 0) (t := (60, 0, true)) (b := 45) fk_X12_7 dX12_word_42 rfl hL rfl rfl rfl ?_
      refine x_aload_n (i := 0) (b := 46) dX12_word_45 rfl rfl rfl ?_
      refine x_getI (v := gI h2 12 0 29) (b := 49) fk_X12_210 dX12_word_46 (by decide) rfl rfl ?_
      refine x_iload_n (i := 3) (b := 50) dX12_word_49 rfl rfl rfl ?_
      obtain ⟨hs, hF⟩ := ck_e hF
      refine x_iadd (b := 51) dX12_word_50 hs rfl ?_
      obtain ⟨hs, hF⟩ := ck_e hF
      refine x_iald (v := gI h2 60 0 ((gI h2 12 0 29) + x3)) (b := 52) ak_60 dX12_word_51 hs rfl rfl ?_
      refine x_ldcS12 (b := 54) rfl dX12_word_52 rfl ?_
      refine x_iload_n (i := 2) (b := 55) dX12_word_54 rfl rfl rfl ?_
      refine x_iload_n (i := 3) (b := 56) dX12_word_55 rfl rfl rfl ?_
      obtain ⟨hs, hF⟩ := ck_e hF
      refine x_iadd (b := 57) dX12_word_56 hs rfl ?_
      obtain ⟨v3, h4, hq, hF⟩ := bd_e hF
      refine x_callVS (as := [xi (x2 + x3)]) (rest := [xi (gI h2 60 0 ((gI h2 12 0 29) + x3))]) (b := 60) (c_J0_charAt_5068e d (x2 + x3) h2 _ hL hq) rfl dX12_word_57 cx_X12_243 rfl rfl (Nat.le_of_ble_eq_true rfl) ⟨Nat.le_refl _, Nat.le_refl _⟩ rfl (fun rv hh hp _ => ?_)
      obtain ⟨rfl, rfl, hL⟩ := hp
      refine x_icmp_ne (tgt := 69) (b := 63) dX12_word_60 (by decide) rfl (fun hc => ?_) (fun hc => ?_)
      · replace hF := br_F hc hF
        exact x_dp (ls2 := [some (xr 12 0), some (xi x1), some (xi x2), some (xi x3)]) ⟨rfl, rfl, rfl, rfl, trivial⟩ (hr_69 x1 x2 x3 h4 hL hF)
      · replace hF := br_T hc hF
        obtain ⟨hs, hF⟩ := ck_e hF
        refine x_iinc (i := 3) (b := 66) (ls2 := [some (xr 12 0), some (xi x1), some (xi x2), some (xi (x3 + 1))]) dX12_word_63 rfl (Nat.le_of_ble_eq_true rfl) hs rfl rfl ?_
        refine x_goto (tgt := 15) dX12_word_66 (by decide) ?_
        exact x_dp (ls2 := [some (xr 12 0), some (xi x1), some (xi x2), some (xi (x3 + 1))]) ⟨rfl, rfl, rfl, rfl, trivial⟩ (hr_15 x1 x2 (x3 + 1) h4 hL hF)
set_option maxHeartbeats 4000000 in
set_option maxRecDepth 100000 in
theorem t_X12_word_3 (E : xE) (d : Nat) (rec : Rk) (r : Int × Hp) (hr_97 : ∀ (x1 x2 : Int) (h : Hp), Lay h → rec 4 [x1, x2] h = some r → X E mX12_word (d + 5) (0, 0) (0, 0) 97 [some (xr 12 0), some (xi x1), some (xi x2), none] [] h (PoI r)) (x1 x2 x3 : Int) (h : Hp) (hL : Lay h) (hF : b_X12_word_3 rec x1 x2 x3 h = some r) : X E mX12_word (d + 5) (0, 0) (0, 0) 69 [some (xr 12 0), some (xi x1), some (xi x2), some (xi x3)] [] h (PoI r) := by
  unfold b_X12_word_3 at hF
  refine x_ldcS12 (b := 71) rfl dX12_word_69 rfl ?_
  refine x_iload_n (i := 2) (b := 72) dX12_word_71 rfl rfl rfl ?_
  refine x_iload_n (i := 3) (b := 73) dX12_word_72 rfl rfl rfl ?_
  obtain ⟨hs, hF⟩ := ck_e hF
  refine x_iadd (b := 74) dX12_word_73 hs rfl ?_
  obtain ⟨v1, h2, hq, hF⟩ := bd_e hF
  refine x_callVS (as := [xi (x2 + x3)]) (rest := []) (b := 77) (c_J0_charAt_5068e d (x2 + x3) h _ hL hq) rfl dX12_word_74 cx_X12_243 rfl rfl (Nat.le_of_ble_eq_true rfl) ⟨Nat.le_refl _, Nat.le_refl _⟩ rfl (fun rv hh hp _ => ?_)
  obtain ⟨rfl, rfl, hL⟩ := hp
  refine x_bipush (n := 32) (b := 79) dX12_word_77 (by decide) rfl ?_
  refine x_icmp_ne (tgt := 97) (b := 82) dX12_word_79 (by decide) rfl (fun hc => ?_) (fun hc => ?_)
  · replace hF := br_F hc hF
    exact x_dp (ls2 := [some (xr 12 0), some (xi x1), some (xi x2), none]) ⟨rfl, rfl, rfl, trivial⟩ (hr_97 x1 x2 h2 hL hF)
  · replace hF := br_T hc hF
    refine x_aload_n (i := 0) (b := 83) dX12_word_82 rfl rfl rfl ?_
    refine x_getI (v := gI h2 12 0 29) (b := 86) fk_X12_210 dX12_word_83 (by decide) rfl rfl ?_
    refine x_iload_n (i := 3) (b := 87) dX12_word_86 rfl rfl rfl ?_
    obtain ⟨hs, hF⟩ := ck_e hF
    refine x_iadd (b := 88) dX12_word_87 hs rfl ?_
    refine x_aload_n (i := 0) (b := 89) dX12_word_88 rfl rfl rfl ?_
    refine x_getI (v := gI h2 12 0 28) (b := 92) fk_X12_200 dX12_word_89 (by decide) rfl rfl ?_
    refine x_icmp_ne (tgt := 97) (b := 95) dX12_word_92 (by decide) rfl (fun hc => ?_) (fun hc => ?_)
    · replace hF := br_F hc hF
      exact x_dp (ls2 := [some (xr 12 0), some (xi x1), some (xi x2), none]) ⟨rfl, rfl, rfl, trivial⟩ (hr_97 x1 x2 h2 hL hF)
    · replace hF := br_T hc hF
      refine x_iload_n (i := 1) (b := 96) dX12_word_95 rfl rfl rfl ?_
      refine x_ireturn dX12_word_96 rfl ⟨Nat.le_refl _, Nat.le_refl _⟩ ?_
      cases hF
      exact ⟨rfl, rfl, hL⟩
set_option maxHeartbeats 4000000 in
set_option maxRecDepth 100000 in
theorem t_X12_word_4 (E : xE) (d : Nat) (rec : Rk) (r : Int × Hp) (hr_4 : ∀ (x1 x2 : Int) (h : Hp), Lay h → rec 1 [x1, x2] h = some r → X E mX12_word (d + 5) (0, 0) (0, 0) 4 [some (xr 12 0), some (xi x1), some (xi x2), none] [] h (PoI r)) (hr_97 : ∀ (x1 x2 : Int) (h : Hp), Lay h → rec 4 [x1, x2] h = some r → X E mX12_word (d + 5) (0, 0) (0, 0) 97 [some (xr 12 0), some (xi x1), some (xi x2), none] [] h (PoI r)) (x1 x2 : Int) (h : Hp) (hL : Lay h) (hF : b_X12_word_4 rec x1 x2 h = some r) : X E mX12_word (d + 5) (0, 0) (0, 0) 97 [some (xr 12 0), some (xi x1), some (xi x2), none] [] h (PoI r) := by
  unfold b_X12_word_4 at hF
  refine x_ldcS12 (b := 99) rfl dX12_word_97 rfl ?_
  refine x_iload_n (i := 2) (b := 100) dX12_word_99 rfl rfl rfl ?_
  obtain ⟨v1, h2, hq, hF⟩ := bd_e hF
  refine x_callVS (as := [xi x2]) (rest := []) (b := 103) (c_J0_charAt_5068e d x2 h _ hL hq) rfl dX12_word_100 cx_X12_243 rfl rfl (Nat.le_of_ble_eq_true rfl) ⟨Nat.le_refl _, Nat.le_refl _⟩ rfl (fun rv hh hp _ => ?_)
  obtain ⟨rfl, rfl, hL⟩ := hp
  refine x_bipush (n := 32) (b := 105) dX12_word_103 (by decide) rfl ?_
  refine x_icmp_eq (tgt := 114) (b := 108) dX12_word_105 (by decide) rfl (fun hc => ?_) (fun hc => ?_)
  · replace hF := br_T hc hF
    obtain ⟨hs, hF⟩ := ck_e hF
    refine x_iinc (i := 2) (b := 117) (ls2 := [some (xr 12 0), some (xi x1), some (xi (x2 + 1)), none]) dX12_word_114 rfl (Nat.le_of_ble_eq_true rfl) hs rfl rfl ?_
    obtain ⟨hs, hF⟩ := ck_e hF
    refine x_iinc (i := 1) (b := 120) (ls2 := [some (xr 12 0), some (xi (x1 + 1)), some (xi (x2 + 1)), none]) dX12_word_117 rfl (Nat.le_of_ble_eq_true rfl) hs rfl rfl ?_
    refine x_goto (tgt := 4) dX12_word_120 (by decide) ?_
    exact x_dp (ls2 := [some (xr 12 0), some (xi (x1 + 1)), some (xi (x2 + 1)), none]) ⟨rfl, rfl, rfl, trivial⟩ (hr_4 (x1 + 1) (x2 + 1) h2 hL hF)
  · replace hF := br_F hc hF
    obtain ⟨hs, hF⟩ := ck_e hF
    refine x_iinc (i := 2) (b := 111) (ls2 := [some (xr 12 0), some (xi x1), some (xi (x2 + 1)), none]) dX12_word_108 rfl (Nat.le_of_ble_eq_true rfl) hs rfl rfl ?_
    refine x_goto (tgt := 97) dX12_word_111 (by decide) ?_
    exact x_dp (ls2 := [some (xr 12 0), some (xi x1), some (xi (x2 + 1)), none]) ⟨rfl, rfl, rfl, trivial⟩ (hr_97 x1 (x2 + 1) h2 hL hF)
set_option maxHeartbeats 4000000 in
set_option maxRecDepth 100000 in
theorem u_X12_word (E : xE) (d : Nat) (r : Int × Hp) : ∀ n : Nat, (∀ (h : Hp), Lay h → g_X12_word n 0 [] h = some r → X E mX12_word (d + 5) (0, 0) (0, 0) 0 [some (xr 12 0), none, none, none] [] h (PoI r)) ∧ (∀ (x1 x2 : Int) (h : Hp), Lay h → g_X12_word n 1 [x1, x2] h = some r → X E mX12_word (d + 5) (0, 0) (0, 0) 4 [some (xr 12 0), some (xi x1), some (xi x2), none] [] h (PoI r)) ∧ (∀ (x1 x2 x3 : Int) (h : Hp), Lay h → g_X12_word n 2 [x1, x2, x3] h = some r → X E mX12_word (d + 5) (0, 0) (0, 0) 15 [some (xr 12 0), some (xi x1), some (xi x2), some (xi x3)] [] h (PoI r)) ∧ (∀ (x1 x2 x3 : Int) (h : Hp), Lay h → g_X12_word n 3 [x1, x2, x3] h = some r → X E mX12_word (d + 5) (0, 0) (0, 0) 69 [some (xr 12 0), some (xi x1), some (xi x2), some (xi x3)] [] h (PoI r)) ∧ (∀ (x1 x2 : Int) (h : Hp), Lay h → g_X12_word n 4 [x1, x2] h = some r → X E mX12_word (d + 5) (0, 0) (0, 0) 97 [some (xr 12 0), some (xi x1), some (xi x2), none] [] h (PoI r)) := by
  intro n
  induction n with
  | zero => exact ⟨fun _ _ hF => no_e (r := r) hF, fun _ _ _ _ hF => no_e (r := r) hF, fun _ _ _ _ _ hF => no_e (r := r) hF, fun _ _ _ _ _ hF => no_e (r := r) hF, fun _ _ _ _ hF => no_e (r := r) hF⟩
  | succ n ih => exact ⟨fun h hL hF => t_X12_word_0 E d (g_X12_word n) r ih.2.1  h hL hF, fun x1 x2 h hL hF => t_X12_word_1 E d (g_X12_word n) r ih.2.2.1 x1 x2 h hL hF, fun x1 x2 x3 h hL hF => t_X12_word_2 E d (g_X12_word n) r ih.2.2.1 ih.2.2.2.1 x1 x2 x3 h hL hF, fun x1 x2 x3 h hL hF => t_X12_word_3 E d (g_X12_word n) r ih.2.2.2.2 x1 x2 x3 h hL hF, fun x1 x2 h hL hF => t_X12_word_4 E d (g_X12_word n) r ih.2.1 ih.2.2.2.2 x1 x2 h hL hF⟩
theorem c_X12_word (d : Nat) (h : Hp) (r : Int × Hp) (hL : Lay h) (hF : f_X12_word  h = some r) : Sp mX12_word (d + 5) (0, 0) [xr 12 0] h (PoI r) :=
  sp_of (by decide) rfl (Nat.le_of_ble_eq_true rfl) (ls := [some (xr 12 0), none, none, none]) rfl (fun E _ => (u_X12_word E d r FU).1  h hL hF)
theorem dX12_token_0 : decode cX12_token 0 = .ok (.aload_n 0, 1) := by decide +kernel
theorem dX12_token_1 : decode cX12_token 1 = .ok (.invokevirtual 206, 3) := by decide +kernel
theorem dX12_token_4 : decode cX12_token 4 = .ok (.bipush 10, 2) := by decide +kernel
theorem dX12_token_6 : decode cX12_token 6 = .ok (.if_icmp .eq 12, 3) := by decide +kernel
theorem dX12_token_9 : decode cX12_token 9 = .ok (.aload_n 0, 1) := by decide +kernel
theorem dX12_token_10 : decode cX12_token 10 = .ok (.invokevirtual 206, 3) := by decide +kernel
theorem dX12_token_13 : decode cX12_token 13 = .ok (.bipush 32, 2) := by decide +kernel
theorem dX12_token_15 : decode cX12_token 15 = .ok (.if_icmp .ne 16, 3) := by decide +kernel
theorem dX12_token_18 : decode cX12_token 18 = .ok (.aload_n 0, 1) := by decide +kernel
theorem dX12_token_19 : decode cX12_token 19 = .ok (.dup, 1) := by decide +kernel
theorem dX12_token_20 : decode cX12_token 20 = .ok (.getfield 200, 3) := by decide +kernel
theorem dX12_token_23 : decode cX12_token 23 = .ok (.iconst 1, 1) := by decide +kernel
theorem dX12_token_24 : decode cX12_token 24 = .ok (.iadd, 1) := by decide +kernel
theorem dX12_token_25 : decode cX12_token 25 = .ok (.putfield 200, 3) := by decide +kernel
theorem dX12_token_28 : decode cX12_token 28 = .ok (.goto (-28), 3) := by decide +kernel
theorem dX12_token_31 : decode cX12_token 31 = .ok (.aload_n 0, 1) := by decide +kernel
theorem dX12_token_32 : decode cX12_token 32 = .ok (.aload_n 0, 1) := by decide +kernel
theorem dX12_token_33 : decode cX12_token 33 = .ok (.getfield 200, 3) := by decide +kernel
theorem dX12_token_36 : decode cX12_token 36 = .ok (.putfield 210, 3) := by decide +kernel
theorem dX12_token_39 : decode cX12_token 39 = .ok (.aload_n 0, 1) := by decide +kernel
theorem dX12_token_40 : decode cX12_token 40 = .ok (.invokevirtual 206, 3) := by decide +kernel
theorem dX12_token_43 : decode cX12_token 43 = .ok (.istore_n 1, 1) := by decide +kernel
theorem dX12_token_44 : decode cX12_token 44 = .ok (.iload_n 1, 1) := by decide +kernel
theorem dX12_token_45 : decode cX12_token 45 = .ok (.iconst (-1), 1) := by decide +kernel
theorem dX12_token_46 : decode cX12_token 46 = .ok (.if_icmp .ne 11, 3) := by decide +kernel
theorem dX12_token_49 : decode cX12_token 49 = .ok (.aload_n 0, 1) := by decide +kernel
theorem dX12_token_50 : decode cX12_token 50 = .ok (.iconst 4, 1) := by decide +kernel
theorem dX12_token_51 : decode cX12_token 51 = .ok (.putfield 213, 3) := by decide +kernel
theorem dX12_token_54 : decode cX12_token 54 = .ok (.goto 171, 3) := by decide +kernel
theorem dX12_token_57 : decode cX12_token 57 = .ok (.iload_n 1, 1) := by decide +kernel
theorem dX12_token_58 : decode cX12_token 58 = .ok (.invokestatic 216, 3) := by decide +kernel
theorem dX12_token_61 : decode cX12_token 61 = .ok (.ifCond .eq 84, 3) := by decide +kernel
theorem dX12_token_64 : decode cX12_token 64 = .ok (.aload_n 0, 1) := by decide +kernel
theorem dX12_token_65 : decode cX12_token 65 = .ok (.invokevirtual 206, 3) := by decide +kernel
theorem dX12_token_68 : decode cX12_token 68 = .ok (.invokestatic 216, 3) := by decide +kernel
theorem dX12_token_71 : decode cX12_token 71 = .ok (.ifCond .eq 16, 3) := by decide +kernel
theorem dX12_token_74 : decode cX12_token 74 = .ok (.aload_n 0, 1) := by decide +kernel
theorem dX12_token_75 : decode cX12_token 75 = .ok (.dup, 1) := by decide +kernel
theorem dX12_token_76 : decode cX12_token 76 = .ok (.getfield 200, 3) := by decide +kernel
theorem dX12_token_79 : decode cX12_token 79 = .ok (.iconst 1, 1) := by decide +kernel
theorem dX12_token_80 : decode cX12_token 80 = .ok (.iadd, 1) := by decide +kernel
theorem dX12_token_81 : decode cX12_token 81 = .ok (.putfield 200, 3) := by decide +kernel
theorem dX12_token_84 : decode cX12_token 84 = .ok (.goto (-20), 3) := by decide +kernel
theorem dX12_token_87 : decode cX12_token 87 = .ok (.aload_n 0, 1) := by decide +kernel
theorem dX12_token_88 : decode cX12_token 88 = .ok (.aload_n 0, 1) := by decide +kernel
theorem dX12_token_89 : decode cX12_token 89 = .ok (.invokevirtual 220, 3) := by decide +kernel
theorem dX12_token_92 : decode cX12_token 92 = .ok (.putfield 223, 3) := by decide +kernel
theorem dX12_token_95 : decode cX12_token 95 = .ok (.aload_n 0, 1) := by decide +kernel
theorem dX12_token_96 : decode cX12_token 96 = .ok (.aload_n 0, 1) := by decide +kernel
theorem dX12_token_97 : decode cX12_token 97 = .ok (.getfield 223, 3) := by decide +kernel
theorem dX12_token_100 : decode cX12_token 100 = .ok (.iconst (-1), 1) := by decide +kernel
theorem dX12_token_101 : decode cX12_token 101 = .ok (.if_icmp .eq 7, 3) := by decide +kernel
theorem dX12_token_104 : decode cX12_token 104 = .ok (.iconst 0, 1) := by decide +kernel
theorem dX12_token_105 : decode cX12_token 105 = .ok (.goto 22, 3) := by decide +kernel
theorem dX12_token_108 : decode cX12_token 108 = .ok (.aload_n 0, 1) := by decide +kernel
theorem dX12_token_109 : decode cX12_token 109 = .ok (.getfield 200, 3) := by decide +kernel
theorem dX12_token_112 : decode cX12_token 112 = .ok (.aload_n 0, 1) := by decide +kernel
theorem dX12_token_113 : decode cX12_token 113 = .ok (.getfield 210, 3) := by decide +kernel
theorem dX12_token_116 : decode cX12_token 116 = .ok (.isub, 1) := by decide +kernel
theorem dX12_token_117 : decode cX12_token 117 = .ok (.bipush 6, 2) := by decide +kernel
theorem dX12_token_119 : decode cX12_token 119 = .ok (.if_icmp .le 7, 3) := by decide +kernel
theorem dX12_token_122 : decode cX12_token 122 = .ok (.iconst 5, 1) := by decide +kernel
theorem dX12_token_123 : decode cX12_token 123 = .ok (.goto 4, 3) := by decide +kernel
theorem dX12_token_126 : decode cX12_token 126 = .ok (.iconst 1, 1) := by decide +kernel
theorem dX12_token_127 : decode cX12_token 127 = .ok (.putfield 213, 3) := by decide +kernel
theorem dX12_token_130 : decode cX12_token 130 = .ok (.aload_n 0, 1) := by decide +kernel
theorem dX12_token_131 : decode cX12_token 131 = .ok (.getfield 213, 3) := by decide +kernel
theorem dX12_token_134 : decode cX12_token 134 = .ok (.iconst 1, 1) := by decide +kernel
theorem dX12_token_135 : decode cX12_token 135 = .ok (.if_icmp .ne 90, 3) := by decide +kernel
theorem dX12_token_138 : decode cX12_token 138 = .ok (.aload_n 0, 1) := by decide +kernel
theorem dX12_token_139 : decode cX12_token 139 = .ok (.invokevirtual 226, 3) := by decide +kernel
theorem dX12_token_142 : decode cX12_token 142 = .ok (.goto 83, 3) := by decide +kernel
theorem dX12_token_145 : decode cX12_token 145 = .ok (.iload_n 1, 1) := by decide +kernel
theorem dX12_token_146 : decode cX12_token 146 = .ok (.invokestatic 229, 3) := by decide +kernel
theorem dX12_token_149 : decode cX12_token 149 = .ok (.ifCond .eq 71, 3) := by decide +kernel
theorem dX12_token_152 : decode cX12_token 152 = .ok (.aload_n 0, 1) := by decide +kernel
theorem dX12_token_153 : decode cX12_token 153 = .ok (.iconst 2, 1) := by decide +kernel
theorem dX12_token_154 : decode cX12_token 154 = .ok (.putfield 213, 3) := by decide +kernel
theorem dX12_token_157 : decode cX12_token 157 = .ok (.aload_n 0, 1) := by decide +kernel
theorem dX12_token_158 : decode cX12_token 158 = .ok (.iconst 0, 1) := by decide +kernel
theorem dX12_token_159 : decode cX12_token 159 = .ok (.putfield 223, 3) := by decide +kernel
theorem dX12_token_162 : decode cX12_token 162 = .ok (.aload_n 0, 1) := by decide +kernel
theorem dX12_token_163 : decode cX12_token 163 = .ok (.invokevirtual 206, 3) := by decide +kernel
theorem dX12_token_166 : decode cX12_token 166 = .ok (.invokestatic 229, 3) := by decide +kernel
theorem dX12_token_169 : decode cX12_token 169 = .ok (.ifCond .eq 56, 3) := by decide +kernel
theorem dX12_token_172 : decode cX12_token 172 = .ok (.aload_n 0, 1) := by decide +kernel
theorem dX12_token_173 : decode cX12_token 173 = .ok (.aload_n 0, 1) := by decide +kernel
theorem dX12_token_174 : decode cX12_token 174 = .ok (.getfield 223, 3) := by decide +kernel
theorem dX12_token_177 : decode cX12_token 177 = .ok (.ldc 232, 2) := by decide +kernel
theorem dX12_token_179 : decode cX12_token 179 = .ok (.if_icmp .le 10, 3) := by decide +kernel
theorem dX12_token_182 : decode cX12_token 182 = .ok (.aload_n 0, 1) := by decide +kernel
theorem dX12_token_183 : decode cX12_token 183 = .ok (.getfield 223, 3) := by decide +kernel
theorem dX12_token_186 : decode cX12_token 186 = .ok (.goto 18, 3) := by decide +kernel
theorem dX12_token_189 : decode cX12_token 189 = .ok (.bipush 10, 2) := by decide +kernel
theorem dX12_token_191 : decode cX12_token 191 = .ok (.aload_n 0, 1) := by decide +kernel
theorem dX12_token_192 : decode cX12_token 192 = .ok (.getfield 223, 3) := by decide +kernel
theorem dX12_token_195 : decode cX12_token 195 = .ok (.imul, 1) := by decide +kernel
theorem dX12_token_196 : decode cX12_token 196 = .ok (.aload_n 0, 1) := by decide +kernel
theorem dX12_token_197 : decode cX12_token 197 = .ok (.invokevirtual 206, 3) := by decide +kernel
theorem dX12_token_200 : decode cX12_token 200 = .ok (.iadd, 1) := by decide +kernel
theorem dX12_token_201 : decode cX12_token 201 = .ok (.bipush 48, 2) := by decide +kernel
theorem dX12_token_203 : decode cX12_token 203 = .ok (.isub, 1) := by decide +kernel
theorem dX12_token_204 : decode cX12_token 204 = .ok (.putfield 223, 3) := by decide +kernel
theorem dX12_token_207 : decode cX12_token 207 = .ok (.aload_n 0, 1) := by decide +kernel
theorem dX12_token_208 : decode cX12_token 208 = .ok (.dup, 1) := by decide +kernel
theorem dX12_token_209 : decode cX12_token 209 = .ok (.getfield 200, 3) := by decide +kernel
theorem dX12_token_212 : decode cX12_token 212 = .ok (.iconst 1, 1) := by decide +kernel
theorem dX12_token_213 : decode cX12_token 213 = .ok (.iadd, 1) := by decide +kernel
theorem dX12_token_214 : decode cX12_token 214 = .ok (.putfield 200, 3) := by decide +kernel
theorem dX12_token_217 : decode cX12_token 217 = .ok (.goto (-55), 3) := by decide +kernel
theorem dX12_token_220 : decode cX12_token 220 = .ok (.aload_n 0, 1) := by decide +kernel
theorem dX12_token_221 : decode cX12_token 221 = .ok (.iload_n 1, 1) := by decide +kernel
theorem dX12_token_222 : decode cX12_token 222 = .ok (.invokevirtual 233, 3) := by decide +kernel
theorem dX12_token_225 : decode cX12_token 225 = .ok (.return_, 1) := by decide +kernel
noncomputable def b_X12_token_0 (rec : Rk) (h : Hp) : Option (Int × Hp) :=
  bd (f_X12_here h) fun v1 h2 =>
  if v1 = 10 then (
    rec 1 [] h2
  ) else (
    bd (f_X12_here h2) fun v3 h4 =>
    if v3 = 32 then (
      rec 1 [] h4
    ) else (
      lt (sI h4 12 0 29 (gI h4 12 0 28)) fun h5 =>
      bd (f_X12_here h5) fun v6 h7 =>
      if v6 = (-1) then (
        lt (sI h7 12 0 30 4) fun h8 =>
        some (0, h8)
      ) else (
        bd (f_X12_isSmall v6 h7) fun v9 h10 =>
        if v9 = 0 then (
          bd (f_X12_isDigit v6 h10) fun v11 h12 =>
          if v11 = 0 then (
            bd (f_X12_sign v6 h12) fun v13 h14 =>
            some (0, h14)
          ) else (
            lt (sI h12 12 0 30 2) fun h15 =>
            lt (sI h15 12 0 31 0) fun h16 =>
            rec 4 [] h16
          )
        ) else (
          rec 2 [] h10
        )
      )
    )
  )
noncomputable def b_X12_token_1 (rec : Rk) (h : Hp) : Option (Int × Hp) :=
  ck (-2147483648 ≤ (gI h 12 0 28) + 1 ∧ (gI h 12 0 28) + 1 < 2147483648) <|
  lt (sI h 12 0 28 ((gI h 12 0 28) + 1)) fun h1 =>
  rec 0 [] h1
noncomputable def b_X12_token_2 (rec : Rk) (h : Hp) : Option (Int × Hp) :=
  bd (f_X12_here h) fun v1 h2 =>
  bd (f_X12_isSmall v1 h2) fun v3 h4 =>
  if v3 = 0 then (
    bd (f_X12_word h4) fun v5 h6 =>
    lt (sI h6 12 0 31 v5) fun h7 =>
    if (gI h7 12 0 31) = (-1) then (
      ck (-2147483648 ≤ (gI h7 12 0 28) - (gI h7 12 0 29) ∧ (gI h7 12 0 28) - (gI h7 12 0 29) < 2147483648) <|
      if ((gI h7 12 0 28) - (gI h7 12 0 29)) ≤ 6 then (
        rec 3 [1] h7
      ) else (
        rec 3 [5] h7
      )
    ) else (
      rec 3 [0] h7
    )
  ) else (
    ck (-2147483648 ≤ (gI h4 12 0 28) + 1 ∧ (gI h4 12 0 28) + 1 < 2147483648) <|
    lt (sI h4 12 0 28 ((gI h4 12 0 28) + 1)) fun h8 =>
    rec 2 [] h8
  )
noncomputable def b_X12_token_3 (rec : Rk) (y0 : Int) (h : Hp) : Option (Int × Hp) :=
  lt (sI h 12 0 30 y0) fun h1 =>
  if (gI h1 12 0 30) = 1 then (
    bd (f_X12_name h1) fun v2 h3 =>
    some (0, h3)
  ) else (
    some (0, h1)
  )
noncomputable def b_X12_token_4 (rec : Rk) (h : Hp) : Option (Int × Hp) :=
  bd (f_X12_here h) fun v1 h2 =>
  bd (f_X12_isDigit v1 h2) fun v3 h4 =>
  if v3 = 0 then (
    some (0, h4)
  ) else (
    if (gI h4 12 0 31) ≤ 99999 then (
      ck (-2147483648 ≤ 10 * (gI h4 12 0 31) ∧ 10 * (gI h4 12 0 31) < 2147483648) <|
      bd (f_X12_here h4) fun v5 h6 =>
      ck (-2147483648 ≤ (10 * (gI h4 12 0 31)) + v5 ∧ (10 * (gI h4 12 0 31)) + v5 < 2147483648) <|
      ck (-2147483648 ≤ ((10 * (gI h4 12 0 31)) + v5) - 48 ∧ ((10 * (gI h4 12 0 31)) + v5) - 48 < 2147483648) <|
      rec 5 [((10 * (gI h4 12 0 31)) + v5) - 48] h6
    ) else (
      rec 5 [gI h4 12 0 31] h4
    )
  )
noncomputable def b_X12_token_5 (rec : Rk) (y0 : Int) (h : Hp) : Option (Int × Hp) :=
  lt (sI h 12 0 31 y0) fun h1 =>
  ck (-2147483648 ≤ (gI h1 12 0 28) + 1 ∧ (gI h1 12 0 28) + 1 < 2147483648) <|
  lt (sI h1 12 0 28 ((gI h1 12 0 28) + 1)) fun h2 =>
  rec 4 [] h2
noncomputable def g_X12_token (n : Nat) : Rk := Nat.rec (motive := fun _ => Rk) (fun _ _ _ => none) (fun _ rec k l h => if k = 0 then b_X12_token_0 rec  h else if k = 1 then b_X12_token_1 rec  h else if k = 2 then b_X12_token_2 rec  h else if k = 3 then b_X12_token_3 rec (l.getD 0 0) h else if k = 4 then b_X12_token_4 rec  h else if k = 5 then b_X12_token_5 rec (l.getD 0 0) h else none) n
noncomputable def f_X12_token (h : Hp) : Option (Int × Hp) := g_X12_token FU 0 [] h
set_option maxHeartbeats 4000000 in
set_option maxRecDepth 100000 in
theorem t_X12_token_0 (E : xE) (d : Nat) (rec : Rk) (r : Int × Hp) (hr_18 : ∀ (h : Hp), Lay h → rec 1 [] h = some r → X E mX12_token (d + 6) (0, 0) (0, 0) 18 [some (xr 12 0), none] [] h (PoV r)) (hr_64 : ∀ (h : Hp), Lay h → rec 2 [] h = some r → X E mX12_token (d + 6) (0, 0) (0, 0) 64 [some (xr 12 0), none] [] h (PoV r)) (hr_162 : ∀ (h : Hp), Lay h → rec 4 [] h = some r → X E mX12_token (d + 6) (0, 0) (0, 0) 162 [some (xr 12 0), none] [] h (PoV r)) (h : Hp) (hL : Lay h) (hF : b_X12_token_0 rec  h = some r) : X E mX12_token (d + 6) (0, 0) (0, 0) 0 [some (xr 12 0), none] [] h (PoV r) := by
  unfold b_X12_token_0 at hF
  refine x_aload_n (i := 0) (b := 1) dX12_token_0 rfl rfl rfl ?_
  obtain ⟨v1, h2, hq, hF⟩ := bd_e hF
  refine x_callV (as := []) (rest := []) (b := 4) (c_X12_here (d + 4) h _ hL hq) dX12_token_1 cw_X12_206 ⟨_, _, rfl, Nat.le_of_ble_eq_true rfl⟩ rfl rfl (Nat.le_of_ble_eq_true rfl) ⟨Nat.le_refl _, Nat.le_refl _⟩ rfl (fun rv hh hp _ => ?_)
  obtain ⟨rfl, rfl, hL⟩ := hp
  refine x_bipush (n := 10) (b := 6) dX12_token_4 (by decide) rfl ?_
  refine x_icmp_eq (tgt := 18) (b := 9) dX12_token_6 (by decide) rfl (fun hc => ?_) (fun hc => ?_)
  · replace hF := br_T hc hF
    exact x_dp (ls2 := [some (xr 12 0), none]) ⟨rfl, trivial⟩ (hr_18  h2 hL hF)
  · replace hF := br_F hc hF
    refine x_aload_n (i := 0) (b := 10) dX12_token_9 rfl rfl rfl ?_
    obtain ⟨v3, h4, hq, hF⟩ := bd_e hF
    refine x_callV (as := []) (rest := []) (b := 13) (c_X12_here (d + 4) h2 _ hL hq) dX12_token_10 cw_X12_206 ⟨_, _, rfl, Nat.le_of_ble_eq_true rfl⟩ rfl rfl (Nat.le_of_ble_eq_true rfl) ⟨Nat.le_refl _, Nat.le_refl _⟩ rfl (fun rv hh hp _ => ?_)
    obtain ⟨rfl, rfl, hL⟩ := hp
    refine x_bipush (n := 32) (b := 15) dX12_token_13 (by decide) rfl ?_
    refine x_icmp_ne (tgt := 31) (b := 18) dX12_token_15 (by decide) rfl (fun hc => ?_) (fun hc => ?_)
    · replace hF := br_F hc hF
      refine x_aload_n (i := 0) (b := 32) dX12_token_31 rfl rfl rfl ?_
      refine x_aload_n (i := 0) (b := 33) dX12_token_32 rfl rfl rfl ?_
      refine x_getI (v := gI h4 12 0 28) (b := 36) fk_X12_200 dX12_token_33 (by decide) rfl rfl ?_
      refine x_putI (b := 39) fk_X12_210 dX12_token_36 rfl rfl 29 rfl ?_
      obtain ⟨h5, e_h5, hF⟩ := lt_e hF
      refine x_hp (h2 := h5) e_h5 ?_
      replace hL : Lay h5 := by rw [← e_h5]; exact hL
      refine x_aload_n (i := 0) (b := 40) dX12_token_39 rfl rfl rfl ?_
      obtain ⟨v6, h7, hq, hF⟩ := bd_e hF
      refine x_callV (as := []) (rest := []) (b := 43) (c_X12_here (d + 4) h5 _ hL hq) dX12_token_40 cw_X12_206 ⟨_, _, rfl, Nat.le_of_ble_eq_true rfl⟩ rfl rfl (Nat.le_of_ble_eq_true rfl) ⟨Nat.le_refl _, Nat.le_refl _⟩ rfl (fun rv hh hp _ => ?_)
      obtain ⟨rfl, rfl, hL⟩ := hp
      refine x_istore_n (i := 1) (b := 44) (ls2 := [some (xr 12 0), some (xi v6)]) dX12_token_43 rfl (Nat.le_of_ble_eq_true rfl) rfl rfl ?_
      refine x_iload_n (i := 1) (b := 45) dX12_token_44 rfl rfl rfl ?_
      refine x_iconst (n := (-1)) (b := 46) dX12_token_45 (by decide) rfl ?_
      refine x_icmp_ne (tgt := 57) (b := 49) dX12_token_46 (by decide) rfl (fun hc => ?_) (fun hc => ?_)
      · replace hF := br_F hc hF
        refine x_iload_n (i := 1) (b := 58) dX12_token_57 rfl rfl rfl ?_
        obtain ⟨v9, h10, hq, hF⟩ := bd_e hF
        refine x_callS (as := [xi v6]) (rest := []) (b := 61) (c_X12_isSmall (d + 4) v6 h7 _ hL hq) dX12_token_58 cw_X12_216 rfl rfl (Nat.le_of_ble_eq_true rfl) ⟨Nat.le_refl _, Nat.le_refl _⟩ rfl (fun rv hh hp _ => ?_)
        obtain ⟨rfl, rfl, hL⟩ := hp
        refine x_if_eq (tgt := 145) (b := 64) dX12_token_61 (by decide) rfl (fun hc => ?_) (fun hc => ?_)
        · replace hF := br_T hc hF
          refine x_iload_n (i := 1) (b := 146) dX12_token_145 rfl rfl rfl ?_
          obtain ⟨v11, h12, hq, hF⟩ := bd_e hF
          refine x_callS (as := [xi v6]) (rest := []) (b := 149) (c_X12_isDigit (d + 4) v6 h10 _ hL hq) dX12_token_146 cw_X12_229 rfl rfl (Nat.le_of_ble_eq_true rfl) ⟨Nat.le_refl _, Nat.le_refl _⟩ rfl (fun rv hh hp _ => ?_)
          obtain ⟨rfl, rfl, hL⟩ := hp
          refine x_if_eq (tgt := 220) (b := 152) dX12_token_149 (by decide) rfl (fun hc => ?_) (fun hc => ?_)
          · replace hF := br_T hc hF
            refine x_aload_n (i := 0) (b := 221) dX12_token_220 rfl rfl rfl ?_
            refine x_iload_n (i := 1) (b := 222) dX12_token_221 rfl rfl rfl ?_
            obtain ⟨v13, h14, hq, hF⟩ := bd_e hF
            refine x_callV (as := [xi v6]) (rest := []) (b := 225) (c_X12_sign (d + 3) v6 h12 _ hL hq) dX12_token_222 cw_X12_233 ⟨_, _, rfl, Nat.le_of_ble_eq_true rfl⟩ rfl rfl (Nat.le_of_ble_eq_true rfl) ⟨Nat.le_refl _, Nat.le_refl _⟩ rfl (fun rv hh hp _ => ?_)
            obtain ⟨rfl, rfl, hL⟩ := hp
            refine x_return dX12_token_225 rfl ⟨Nat.le_refl _, Nat.le_refl _⟩ ?_
            cases hF
            exact ⟨rfl, rfl, hL⟩
          · replace hF := br_F hc hF
            refine x_aload_n (i := 0) (b := 153) dX12_token_152 rfl rfl rfl ?_
            refine x_iconst (n := 2) (b := 154) dX12_token_153 (by decide) rfl ?_
            refine x_putI (b := 157) fk_X12_213 dX12_token_154 rfl rfl 30 rfl ?_
            obtain ⟨h15, e_h15, hF⟩ := lt_e hF
            refine x_hp (h2 := h15) e_h15 ?_
            replace hL : Lay h15 := by rw [← e_h15]; exact hL
            refine x_aload_n (i := 0) (b := 158) dX12_token_157 rfl rfl rfl ?_
            refine x_iconst (n := 0) (b := 159) dX12_token_158 (by decide) rfl ?_
            refine x_putI (b := 162) fk_X12_223 dX12_token_159 rfl rfl 31 rfl ?_
            obtain ⟨h16, e_h16, hF⟩ := lt_e hF
            refine x_hp (h2 := h16) e_h16 ?_
            replace hL : Lay h16 := by rw [← e_h16]; exact hL
            exact x_dp (ls2 := [some (xr 12 0), none]) ⟨rfl, trivial⟩ (hr_162  h16 hL hF)
        · replace hF := br_F hc hF
          exact x_dp (ls2 := [some (xr 12 0), none]) ⟨rfl, trivial⟩ (hr_64  h10 hL hF)
      · replace hF := br_T hc hF
        refine x_aload_n (i := 0) (b := 50) dX12_token_49 rfl rfl rfl ?_
        refine x_iconst (n := 4) (b := 51) dX12_token_50 (by decide) rfl ?_
        refine x_putI (b := 54) fk_X12_213 dX12_token_51 rfl rfl 30 rfl ?_
        obtain ⟨h8, e_h8, hF⟩ := lt_e hF
        refine x_hp (h2 := h8) e_h8 ?_
        replace hL : Lay h8 := by rw [← e_h8]; exact hL
        refine x_goto (tgt := 225) dX12_token_54 (by decide) ?_
        refine x_return dX12_token_225 rfl ⟨Nat.le_refl _, Nat.le_refl _⟩ ?_
        cases hF
        exact ⟨rfl, rfl, hL⟩
    · replace hF := br_T hc hF
      exact x_dp (ls2 := [some (xr 12 0), none]) ⟨rfl, trivial⟩ (hr_18  h4 hL hF)
set_option maxHeartbeats 4000000 in
set_option maxRecDepth 100000 in
theorem t_X12_token_1 (E : xE) (d : Nat) (rec : Rk) (r : Int × Hp) (hr_0 : ∀ (h : Hp), Lay h → rec 0 [] h = some r → X E mX12_token (d + 6) (0, 0) (0, 0) 0 [some (xr 12 0), none] [] h (PoV r)) (h : Hp) (hL : Lay h) (hF : b_X12_token_1 rec  h = some r) : X E mX12_token (d + 6) (0, 0) (0, 0) 18 [some (xr 12 0), none] [] h (PoV r) := by
  unfold b_X12_token_1 at hF
  refine x_aload_n (i := 0) (b := 19) dX12_token_18 rfl rfl rfl ?_
  refine x_dup (b := 20) dX12_token_19 rfl rfl ?_
  refine x_getI (v := gI h 12 0 28) (b := 23) fk_X12_200 dX12_token_20 (by decide) rfl rfl ?_
  refine x_iconst (n := 1) (b := 24) dX12_token_23 (by decide) rfl ?_
  obtain ⟨hs, hF⟩ := ck_e hF
  refine x_iadd (b := 25) dX12_token_24 hs rfl ?_
  refine x_putI (b := 28) fk_X12_200 dX12_token_25 rfl rfl 28 rfl ?_
  obtain ⟨h1, e_h1, hF⟩ := lt_e hF
  refine x_hp (h2 := h1) e_h1 ?_
  replace hL : Lay h1 := by rw [← e_h1]; exact hL
  refine x_goto (tgt := 0) dX12_token_28 (by decide) ?_
  exact x_dp (ls2 := [some (xr 12 0), none]) ⟨rfl, trivial⟩ (hr_0  h1 hL hF)
set_option maxHeartbeats 4000000 in
set_option maxRecDepth 100000 in
theorem t_X12_token_2 (E : xE) (d : Nat) (rec : Rk) (r : Int × Hp) (hr_64 : ∀ (h : Hp), Lay h → rec 2 [] h = some r → X E mX12_token (d + 6) (0, 0) (0, 0) 64 [some (xr 12 0), none] [] h (PoV r)) (hr_127 : ∀ (y0 : Int) (h : Hp), Lay h → rec 3 [y0] h = some r → X E mX12_token (d + 6) (0, 0) (0, 0) 127 [some (xr 12 0), none] [xi y0, xr 12 0] h (PoV r)) (h : Hp) (hL : Lay h) (hF : b_X12_token_2 rec  h = some r) : X E mX12_token (d + 6) (0, 0) (0, 0) 64 [some (xr 12 0), none] [] h (PoV r) := by
  unfold b_X12_token_2 at hF
  refine x_aload_n (i := 0) (b := 65) dX12_token_64 rfl rfl rfl ?_
  obtain ⟨v1, h2, hq, hF⟩ := bd_e hF
  refine x_callV (as := []) (rest := []) (b := 68) (c_X12_here (d + 4) h _ hL hq) dX12_token_65 cw_X12_206 ⟨_, _, rfl, Nat.le_of_ble_eq_true rfl⟩ rfl rfl (Nat.le_of_ble_eq_true rfl) ⟨Nat.le_refl _, Nat.le_refl _⟩ rfl (fun rv hh hp _ => ?_)
  obtain ⟨rfl, rfl, hL⟩ := hp
  obtain ⟨v3, h4, hq, hF⟩ := bd_e hF
  refine x_callS (as := [xi v1]) (rest := []) (b := 71) (c_X12_isSmall (d + 4) v1 h2 _ hL hq) dX12_token_68 cw_X12_216 rfl rfl (Nat.le_of_ble_eq_true rfl) ⟨Nat.le_refl _, Nat.le_refl _⟩ rfl (fun rv hh hp _ => ?_)
  obtain ⟨rfl, rfl, hL⟩ := hp
  refine x_if_eq (tgt := 87) (b := 74) dX12_token_71 (by decide) rfl (fun hc => ?_) (fun hc => ?_)
  · replace hF := br_T hc hF
    refine x_aload_n (i := 0) (b := 88) dX12_token_87 rfl rfl rfl ?_
    refine x_aload_n (i := 0) (b := 89) dX12_token_88 rfl rfl rfl ?_
    obtain ⟨v5, h6, hq, hF⟩ := bd_e hF
    refine x_callV (as := []) (rest := [xr 12 0]) (b := 92) (c_X12_word d h4 _ hL hq) dX12_token_89 cw_X12_220 ⟨_, _, rfl, Nat.le_of_ble_eq_true rfl⟩ rfl rfl (Nat.le_of_ble_eq_true rfl) ⟨Nat.le_refl _, Nat.le_refl _⟩ rfl (fun rv hh hp _ => ?_)
    obtain ⟨rfl, rfl, hL⟩ := hp
    refine x_putI (b := 95) fk_X12_223 dX12_token_92 rfl rfl 31 rfl ?_
    obtain ⟨h7, e_h7, hF⟩ := lt_e hF
    refine x_hp (h2 := h7) e_h7 ?_
    replace hL : Lay h7 := by rw [← e_h7]; exact hL
    refine x_aload_n (i := 0) (b := 96) dX12_token_95 rfl rfl rfl ?_
    refine x_aload_n (i := 0) (b := 97) dX12_token_96 rfl rfl rfl ?_
    refine x_getI (v := gI h7 12 0 31) (b := 100) fk_X12_223 dX12_token_97 (by decide) rfl rfl ?_
    refine x_iconst (n := (-1)) (b := 101) dX12_token_100 (by decide) rfl ?_
    refine x_icmp_eq (tgt := 108) (b := 104) dX12_token_101 (by decide) rfl (fun hc => ?_) (fun hc => ?_)
    · replace hF := br_T hc hF
      refine x_aload_n (i := 0) (b := 109) dX12_token_108 rfl rfl rfl ?_
      refine x_getI (v := gI h7 12 0 28) (b := 112) fk_X12_200 dX12_token_109 (by decide) rfl rfl ?_
      refine x_aload_n (i := 0) (b := 113) dX12_token_112 rfl rfl rfl ?_
      refine x_getI (v := gI h7 12 0 29) (b := 116) fk_X12_210 dX12_token_113 (by decide) rfl rfl ?_
      obtain ⟨hs, hF⟩ := ck_e hF
      refine x_isub (b := 117) dX12_token_116 hs rfl ?_
      refine x_bipush (n := 6) (b := 119) dX12_token_117 (by decide) rfl ?_
      refine x_icmp_le (tgt := 126) (b := 122) dX12_token_119 (by decide) rfl (fun hc => ?_) (fun hc => ?_)
      · replace hF := br_T hc hF
        refine x_iconst (n := 1) (b := 127) dX12_token_126 (by decide) rfl ?_
        exact x_dp (ls2 := [some (xr 12 0), none]) ⟨rfl, trivial⟩ (hr_127 1 h7 hL hF)
      · replace hF := br_F hc hF
        refine x_iconst (n := 5) (b := 123) dX12_token_122 (by decide) rfl ?_
        refine x_goto (tgt := 127) dX12_token_123 (by decide) ?_
        exact x_dp (ls2 := [some (xr 12 0), none]) ⟨rfl, trivial⟩ (hr_127 5 h7 hL hF)
    · replace hF := br_F hc hF
      refine x_iconst (n := 0) (b := 105) dX12_token_104 (by decide) rfl ?_
      refine x_goto (tgt := 127) dX12_token_105 (by decide) ?_
      exact x_dp (ls2 := [some (xr 12 0), none]) ⟨rfl, trivial⟩ (hr_127 0 h7 hL hF)
  · replace hF := br_F hc hF
    refine x_aload_n (i := 0) (b := 75) dX12_token_74 rfl rfl rfl ?_
    refine x_dup (b := 76) dX12_token_75 rfl rfl ?_
    refine x_getI (v := gI h4 12 0 28) (b := 79) fk_X12_200 dX12_token_76 (by decide) rfl rfl ?_
    refine x_iconst (n := 1) (b := 80) dX12_token_79 (by decide) rfl ?_
    obtain ⟨hs, hF⟩ := ck_e hF
    refine x_iadd (b := 81) dX12_token_80 hs rfl ?_
    refine x_putI (b := 84) fk_X12_200 dX12_token_81 rfl rfl 28 rfl ?_
    obtain ⟨h8, e_h8, hF⟩ := lt_e hF
    refine x_hp (h2 := h8) e_h8 ?_
    replace hL : Lay h8 := by rw [← e_h8]; exact hL
    refine x_goto (tgt := 64) dX12_token_84 (by decide) ?_
    exact x_dp (ls2 := [some (xr 12 0), none]) ⟨rfl, trivial⟩ (hr_64  h8 hL hF)
set_option maxHeartbeats 4000000 in
set_option maxRecDepth 100000 in
theorem t_X12_token_3 (E : xE) (d : Nat) (rec : Rk) (r : Int × Hp) (y0 : Int) (h : Hp) (hL : Lay h) (hF : b_X12_token_3 rec y0 h = some r) : X E mX12_token (d + 6) (0, 0) (0, 0) 127 [some (xr 12 0), none] [xi y0, xr 12 0] h (PoV r) := by
  unfold b_X12_token_3 at hF
  refine x_putI (b := 130) fk_X12_213 dX12_token_127 rfl rfl 30 rfl ?_
  obtain ⟨h1, e_h1, hF⟩ := lt_e hF
  refine x_hp (h2 := h1) e_h1 ?_
  replace hL : Lay h1 := by rw [← e_h1]; exact hL
  refine x_aload_n (i := 0) (b := 131) dX12_token_130 rfl rfl rfl ?_
  refine x_getI (v := gI h1 12 0 30) (b := 134) fk_X12_213 dX12_token_131 (by decide) rfl rfl ?_
  refine x_iconst (n := 1) (b := 135) dX12_token_134 (by decide) rfl ?_
  refine x_icmp_ne (tgt := 225) (b := 138) dX12_token_135 (by decide) rfl (fun hc => ?_) (fun hc => ?_)
  · replace hF := br_F hc hF
    refine x_return dX12_token_225 rfl ⟨Nat.le_refl _, Nat.le_refl _⟩ ?_
    cases hF
    exact ⟨rfl, rfl, hL⟩
  · replace hF := br_T hc hF
    refine x_aload_n (i := 0) (b := 139) dX12_token_138 rfl rfl rfl ?_
    obtain ⟨v2, h3, hq, hF⟩ := bd_e hF
    refine x_callV (as := []) (rest := []) (b := 142) (c_X12_name (d + 4) h1 _ hL hq) dX12_token_139 cw_X12_226 ⟨_, _, rfl, Nat.le_of_ble_eq_true rfl⟩ rfl rfl (Nat.le_of_ble_eq_true rfl) ⟨Nat.le_refl _, Nat.le_refl _⟩ rfl (fun rv hh hp _ => ?_)
    obtain ⟨rfl, rfl, hL⟩ := hp
    refine x_goto (tgt := 225) dX12_token_142 (by decide) ?_
    refine x_return dX12_token_225 rfl ⟨Nat.le_refl _, Nat.le_refl _⟩ ?_
    cases hF
    exact ⟨rfl, rfl, hL⟩
set_option maxHeartbeats 4000000 in
set_option maxRecDepth 100000 in
theorem t_X12_token_4 (E : xE) (d : Nat) (rec : Rk) (r : Int × Hp) (hr_204 : ∀ (y0 : Int) (h : Hp), Lay h → rec 5 [y0] h = some r → X E mX12_token (d + 6) (0, 0) (0, 0) 204 [some (xr 12 0), none] [xi y0, xr 12 0] h (PoV r)) (h : Hp) (hL : Lay h) (hF : b_X12_token_4 rec  h = some r) : X E mX12_token (d + 6) (0, 0) (0, 0) 162 [some (xr 12 0), none] [] h (PoV r) := by
  unfold b_X12_token_4 at hF
  refine x_aload_n (i := 0) (b := 163) dX12_token_162 rfl rfl rfl ?_
  obtain ⟨v1, h2, hq, hF⟩ := bd_e hF
  refine x_callV (as := []) (rest := []) (b := 166) (c_X12_here (d + 4) h _ hL hq) dX12_token_163 cw_X12_206 ⟨_, _, rfl, Nat.le_of_ble_eq_true rfl⟩ rfl rfl (Nat.le_of_ble_eq_true rfl) ⟨Nat.le_refl _, Nat.le_refl _⟩ rfl (fun rv hh hp _ => ?_)
  obtain ⟨rfl, rfl, hL⟩ := hp
  obtain ⟨v3, h4, hq, hF⟩ := bd_e hF
  refine x_callS (as := [xi v1]) (rest := []) (b := 169) (c_X12_isDigit (d + 4) v1 h2 _ hL hq) dX12_token_166 cw_X12_229 rfl rfl (Nat.le_of_ble_eq_true rfl) ⟨Nat.le_refl _, Nat.le_refl _⟩ rfl (fun rv hh hp _ => ?_)
  obtain ⟨rfl, rfl, hL⟩ := hp
  refine x_if_eq (tgt := 225) (b := 172) dX12_token_169 (by decide) rfl (fun hc => ?_) (fun hc => ?_)
  · replace hF := br_T hc hF
    refine x_return dX12_token_225 rfl ⟨Nat.le_refl _, Nat.le_refl _⟩ ?_
    cases hF
    exact ⟨rfl, rfl, hL⟩
  · replace hF := br_F hc hF
    refine x_aload_n (i := 0) (b := 173) dX12_token_172 rfl rfl rfl ?_
    refine x_aload_n (i := 0) (b := 174) dX12_token_173 rfl rfl rfl ?_
    refine x_getI (v := gI h4 12 0 31) (b := 177) fk_X12_223 dX12_token_174 (by decide) rfl rfl ?_
    refine x_ldc (z := 99999) (b := 179) dX12_token_177 kw_1791 (by decide) rfl ?_
    refine x_icmp_le (tgt := 189) (b := 182) dX12_token_179 (by decide) rfl (fun hc => ?_) (fun hc => ?_)
    · replace hF := br_T hc hF
      refine x_bipush (n := 10) (b := 191) dX12_token_189 (by decide) rfl ?_
      refine x_aload_n (i := 0) (b := 192) dX12_token_191 rfl rfl rfl ?_
      refine x_getI (v := gI h4 12 0 31) (b := 195) fk_X12_223 dX12_token_192 (by decide) rfl rfl ?_
      obtain ⟨hs, hF⟩ := ck_e hF
      refine x_imul (b := 196) dX12_token_195 hs rfl ?_
      refine x_aload_n (i := 0) (b := 197) dX12_token_196 rfl rfl rfl ?_
      obtain ⟨v5, h6, hq, hF⟩ := bd_e hF
      refine x_callV (as := []) (rest := [xi (10 * (gI h4 12 0 31)), xr 12 0]) (b := 200) (c_X12_here (d + 4) h4 _ hL hq) dX12_token_197 cw_X12_206 ⟨_, _, rfl, Nat.le_of_ble_eq_true rfl⟩ rfl rfl (Nat.le_of_ble_eq_true rfl) ⟨Nat.le_refl _, Nat.le_refl _⟩ rfl (fun rv hh hp _ => ?_)
      obtain ⟨rfl, rfl, hL⟩ := hp
      obtain ⟨hs, hF⟩ := ck_e hF
      refine x_iadd (b := 201) dX12_token_200 hs rfl ?_
      refine x_bipush (n := 48) (b := 203) dX12_token_201 (by decide) rfl ?_
      obtain ⟨hs, hF⟩ := ck_e hF
      refine x_isub (b := 204) dX12_token_203 hs rfl ?_
      exact x_dp (ls2 := [some (xr 12 0), none]) ⟨rfl, trivial⟩ (hr_204 (((10 * (gI h4 12 0 31)) + v5) - 48) h6 hL hF)
    · replace hF := br_F hc hF
      refine x_aload_n (i := 0) (b := 183) dX12_token_182 rfl rfl rfl ?_
      refine x_getI (v := gI h4 12 0 31) (b := 186) fk_X12_223 dX12_token_183 (by decide) rfl rfl ?_
      refine x_goto (tgt := 204) dX12_token_186 (by decide) ?_
      exact x_dp (ls2 := [some (xr 12 0), none]) ⟨rfl, trivial⟩ (hr_204 (gI h4 12 0 31) h4 hL hF)
set_option maxHeartbeats 4000000 in
set_option maxRecDepth 100000 in
theorem t_X12_token_5 (E : xE) (d : Nat) (rec : Rk) (r : Int × Hp) (hr_162 : ∀ (h : Hp), Lay h → rec 4 [] h = some r → X E mX12_token (d + 6) (0, 0) (0, 0) 162 [some (xr 12 0), none] [] h (PoV r)) (y0 : Int) (h : Hp) (hL : Lay h) (hF : b_X12_token_5 rec y0 h = some r) : X E mX12_token (d + 6) (0, 0) (0, 0) 204 [some (xr 12 0), none] [xi y0, xr 12 0] h (PoV r) := by
  unfold b_X12_token_5 at hF
  refine x_putI (b := 207) fk_X12_223 dX12_token_204 rfl rfl 31 rfl ?_
  obtain ⟨h1, e_h1, hF⟩ := lt_e hF
  refine x_hp (h2 := h1) e_h1 ?_
  replace hL : Lay h1 := by rw [← e_h1]; exact hL
  refine x_aload_n (i := 0) (b := 208) dX12_token_207 rfl rfl rfl ?_
  refine x_dup (b := 209) dX12_token_208 rfl rfl ?_
  refine x_getI (v := gI h1 12 0 28) (b := 212) fk_X12_200 dX12_token_209 (by decide) rfl rfl ?_
  refine x_iconst (n := 1) (b := 213) dX12_token_212 (by decide) rfl ?_
  obtain ⟨hs, hF⟩ := ck_e hF
  refine x_iadd (b := 214) dX12_token_213 hs rfl ?_
  refine x_putI (b := 217) fk_X12_200 dX12_token_214 rfl rfl 28 rfl ?_
  obtain ⟨h2, e_h2, hF⟩ := lt_e hF
  refine x_hp (h2 := h2) e_h2 ?_
  replace hL : Lay h2 := by rw [← e_h2]; exact hL
  refine x_goto (tgt := 162) dX12_token_217 (by decide) ?_
  exact x_dp (ls2 := [some (xr 12 0), none]) ⟨rfl, trivial⟩ (hr_162  h2 hL hF)
set_option maxHeartbeats 4000000 in
set_option maxRecDepth 100000 in
theorem u_X12_token (E : xE) (d : Nat) (r : Int × Hp) : ∀ n : Nat, (∀ (h : Hp), Lay h → g_X12_token n 0 [] h = some r → X E mX12_token (d + 6) (0, 0) (0, 0) 0 [some (xr 12 0), none] [] h (PoV r)) ∧ (∀ (h : Hp), Lay h → g_X12_token n 1 [] h = some r → X E mX12_token (d + 6) (0, 0) (0, 0) 18 [some (xr 12 0), none] [] h (PoV r)) ∧ (∀ (h : Hp), Lay h → g_X12_token n 2 [] h = some r → X E mX12_token (d + 6) (0, 0) (0, 0) 64 [some (xr 12 0), none] [] h (PoV r)) ∧ (∀ (y0 : Int) (h : Hp), Lay h → g_X12_token n 3 [y0] h = some r → X E mX12_token (d + 6) (0, 0) (0, 0) 127 [some (xr 12 0), none] [xi y0, xr 12 0] h (PoV r)) ∧ (∀ (h : Hp), Lay h → g_X12_token n 4 [] h = some r → X E mX12_token (d + 6) (0, 0) (0, 0) 162 [some (xr 12 0), none] [] h (PoV r)) ∧ (∀ (y0 : Int) (h : Hp), Lay h → g_X12_token n 5 [y0] h = some r → X E mX12_token (d + 6) (0, 0) (0, 0) 204 [some (xr 12 0), none] [xi y0, xr 12 0] h (PoV r)) := by
  intro n
  induction n with
  | zero => exact ⟨fun _ _ hF => no_e (r := r) hF, fun _ _ hF => no_e (r := r) hF, fun _ _ hF => no_e (r := r) hF, fun _ _ _ hF => no_e (r := r) hF, fun _ _ hF => no_e (r := r) hF, fun _ _ _ hF => no_e (r := r) hF⟩
  | succ n ih => exact ⟨fun h hL hF => t_X12_token_0 E d (g_X12_token n) r ih.2.1 ih.2.2.1 ih.2.2.2.2.1  h hL hF, fun h hL hF => t_X12_token_1 E d (g_X12_token n) r ih.1  h hL hF, fun h hL hF => t_X12_token_2 E d (g_X12_token n) r ih.2.2.1 ih.2.2.2.1  h hL hF, fun y0 h hL hF => t_X12_token_3 E d (g_X12_token n) r  y0 h hL hF, fun h hL hF => t_X12_token_4 E d (g_X12_token n) r ih.2.2.2.2.2  h hL hF, fun y0 h hL hF => t_X12_token_5 E d (g_X12_token n) r ih.2.2.2.2.1 y0 h hL hF⟩
theorem c_X12_token (d : Nat) (h : Hp) (r : Int × Hp) (hL : Lay h) (hF : f_X12_token  h = some r) : Sp mX12_token (d + 6) (0, 0) [xr 12 0] h (PoV r) :=
  sp_of (by decide) rfl (Nat.le_of_ble_eq_true rfl) (ls := [some (xr 12 0), none]) rfl (fun E _ => (u_X12_token E d r FU).1  h hL hF)
theorem dX12_goOn_0 : decode cX12_goOn 0 = .ok (.aload_n 0, 1) := by decide +kernel
theorem dX12_goOn_1 : decode cX12_goOn 1 = .ok (.getfield 247, 3) := by decide +kernel
theorem dX12_goOn_4 : decode cX12_goOn 4 = .ok (.ifCond .ne 7, 3) := by decide +kernel
theorem dX12_goOn_7 : decode cX12_goOn 7 = .ok (.aload_n 0, 1) := by decide +kernel
theorem dX12_goOn_8 : decode cX12_goOn 8 = .ok (.invokevirtual 253, 3) := by decide +kernel
theorem dX12_goOn_11 : decode cX12_goOn 11 = .ok (.return_, 1) := by decide +kernel
noncomputable def b_X12_goOn_0 (rec : Rk) (h : Hp) : Option (Int × Hp) :=
  if (gI h 12 0 32) = 0 then (
    bd (f_X12_token h) fun v1 h2 =>
    some (0, h2)
  ) else (
    some (0, h)
  )
noncomputable def g_X12_goOn (n : Nat) : Rk := Nat.rec (motive := fun _ => Rk) (fun _ _ _ => none) (fun _ rec k l h => if k = 0 then b_X12_goOn_0 rec  h else none) n
noncomputable def f_X12_goOn (h : Hp) : Option (Int × Hp) := g_X12_goOn FU 0 [] h
set_option maxHeartbeats 4000000 in
set_option maxRecDepth 100000 in
theorem t_X12_goOn_0 (E : xE) (d : Nat) (rec : Rk) (r : Int × Hp) (h : Hp) (hL : Lay h) (hF : b_X12_goOn_0 rec  h = some r) : X E mX12_goOn (d + 7) (0, 0) (0, 0) 0 [some (xr 12 0)] [] h (PoV r) := by
  unfold b_X12_goOn_0 at hF
  refine x_aload_n (i := 0) (b := 1) dX12_goOn_0 rfl rfl rfl ?_
  refine x_getI (v := gI h 12 0 32) (b := 4) fk_X12_247 dX12_goOn_1 (by decide) rfl rfl ?_
  refine x_if_ne (tgt := 11) (b := 7) dX12_goOn_4 (by decide) rfl (fun hc => ?_) (fun hc => ?_)
  · replace hF := br_F hc hF
    refine x_return dX12_goOn_11 rfl ⟨Nat.le_refl _, Nat.le_refl _⟩ ?_
    cases hF
    exact ⟨rfl, rfl, hL⟩
  · replace hF := br_T hc hF
    refine x_aload_n (i := 0) (b := 8) dX12_goOn_7 rfl rfl rfl ?_
    obtain ⟨v1, h2, hq, hF⟩ := bd_e hF
    refine x_callV (as := []) (rest := []) (b := 11) (c_X12_token d h _ hL hq) dX12_goOn_8 cw_X12_253 ⟨_, _, rfl, Nat.le_of_ble_eq_true rfl⟩ rfl rfl (Nat.le_of_ble_eq_true rfl) ⟨Nat.le_refl _, Nat.le_refl _⟩ rfl (fun rv hh hp _ => ?_)
    obtain ⟨rfl, rfl, hL⟩ := hp
    refine x_return dX12_goOn_11 rfl ⟨Nat.le_refl _, Nat.le_refl _⟩ ?_
    cases hF
    exact ⟨rfl, rfl, hL⟩
set_option maxHeartbeats 4000000 in
set_option maxRecDepth 100000 in
theorem u_X12_goOn (E : xE) (d : Nat) (r : Int × Hp) : ∀ n : Nat, (∀ (h : Hp), Lay h → g_X12_goOn n 0 [] h = some r → X E mX12_goOn (d + 7) (0, 0) (0, 0) 0 [some (xr 12 0)] [] h (PoV r)) := by
  intro n
  induction n with
  | zero => exact fun _ _ hF => no_e (r := r) hF
  | succ n ih => exact fun h hL hF => t_X12_goOn_0 E d (g_X12_goOn n) r   h hL hF
theorem c_X12_goOn (d : Nat) (h : Hp) (r : Int × Hp) (hL : Lay h) (hF : f_X12_goOn  h = some r) : Sp mX12_goOn (d + 7) (0, 0) [xr 12 0] h (PoV r) :=
  sp_of (by decide) rfl (Nat.le_of_ble_eq_true rfl) (ls := [some (xr 12 0)]) rfl (fun E _ => (u_X12_goOn E d r FU)  h hL hF)
theorem dX12_numeral_0 : decode cX12_numeral 0 = .ok (.aload_n 0, 1) := by decide +kernel
theorem dX12_numeral_1 : decode cX12_numeral 1 = .ok (.iload_n 1, 1) := by decide +kernel
theorem dX12_numeral_2 : decode cX12_numeral 2 = .ok (.iload_n 2, 1) := by decide +kernel
theorem dX12_numeral_3 : decode cX12_numeral 3 = .ok (.invokevirtual 259, 3) := by decide +kernel
theorem dX12_numeral_6 : decode cX12_numeral 6 = .ok (.istore_n 3, 1) := by decide +kernel
theorem dX12_numeral_7 : decode cX12_numeral 7 = .ok (.aload_n 0, 1) := by decide +kernel
theorem dX12_numeral_8 : decode cX12_numeral 8 = .ok (.invokevirtual 263, 3) := by decide +kernel
theorem dX12_numeral_11 : decode cX12_numeral 11 = .ok (.iload_n 3, 1) := by decide +kernel
theorem dX12_numeral_12 : decode cX12_numeral 12 = .ok (.ireturn, 1) := by decide +kernel
noncomputable def b_X12_numeral_0 (rec : Rk) (x1 x2 : Int) (h : Hp) : Option (Int × Hp) :=
  bd (f_X12_numeralAtHand x1 x2 h) fun v1 h2 =>
  bd (f_X12_goOn h2) fun v3 h4 =>
  some (v1, h4)
noncomputable def g_X12_numeral (n : Nat) : Rk := Nat.rec (motive := fun _ => Rk) (fun _ _ _ => none) (fun _ rec k l h => if k = 0 then b_X12_numeral_0 rec (l.getD 0 0) (l.getD 1 0) h else none) n
noncomputable def f_X12_numeral (x1 x2 : Int) (h : Hp) : Option (Int × Hp) := g_X12_numeral FU 0 [x1, x2] h
set_option maxHeartbeats 4000000 in
set_option maxRecDepth 100000 in
theorem t_X12_numeral_0 (E : xE) (d : Nat) (rec : Rk) (r : Int × Hp) (x1 x2 : Int) (h : Hp) (hL : Lay h) (hF : b_X12_numeral_0 rec x1 x2 h = some r) : X E mX12_numeral (d + 8) (0, 0) (0, 0) 0 [some (xr 12 0), some (xi x1), some (xi x2), none] [] h (PoI r) := by
  unfold b_X12_numeral_0 at hF
  refine x_aload_n (i := 0) (b := 1) dX12_numeral_0 rfl rfl rfl ?_
  refine x_iload_n (i := 1) (b := 2) dX12_numeral_1 rfl rfl rfl ?_
  refine x_iload_n (i := 2) (b := 3) dX12_numeral_2 rfl rfl rfl ?_
  obtain ⟨v1, h2, hq, hF⟩ := bd_e hF
  refine x_callV (as := [xi x1, xi x2]) (rest := []) (b := 6) (c_X12_numeralAtHand (d + 5) x1 x2 h _ hL hq) dX12_numeral_3 cw_X12_259 ⟨_, _, rfl, Nat.le_of_ble_eq_true rfl⟩ rfl rfl (Nat.le_of_ble_eq_true rfl) ⟨Nat.le_refl _, Nat.le_refl _⟩ rfl (fun rv hh hp _ => ?_)
  obtain ⟨rfl, rfl, hL⟩ := hp
  refine x_istore_n (i := 3) (b := 7) (ls2 := [some (xr 12 0), some (xi x1), some (xi x2), some (xi v1)]) dX12_numeral_6 rfl (Nat.le_of_ble_eq_true rfl) rfl rfl ?_
  refine x_aload_n (i := 0) (b := 8) dX12_numeral_7 rfl rfl rfl ?_
  obtain ⟨v3, h4, hq, hF⟩ := bd_e hF
  refine x_callV (as := []) (rest := []) (b := 11) (c_X12_goOn d h2 _ hL hq) dX12_numeral_8 cw_X12_263 ⟨_, _, rfl, Nat.le_of_ble_eq_true rfl⟩ rfl rfl (Nat.le_of_ble_eq_true rfl) ⟨Nat.le_refl _, Nat.le_refl _⟩ rfl (fun rv hh hp _ => ?_)
  obtain ⟨rfl, rfl, hL⟩ := hp
  refine x_iload_n (i := 3) (b := 12) dX12_numeral_11 rfl rfl rfl ?_
  refine x_ireturn dX12_numeral_12 rfl ⟨Nat.le_refl _, Nat.le_refl _⟩ ?_
  cases hF
  exact ⟨rfl, rfl, hL⟩
set_option maxHeartbeats 4000000 in
set_option maxRecDepth 100000 in
theorem u_X12_numeral (E : xE) (d : Nat) (r : Int × Hp) : ∀ n : Nat, (∀ (x1 x2 : Int) (h : Hp), Lay h → g_X12_numeral n 0 [x1, x2] h = some r → X E mX12_numeral (d + 8) (0, 0) (0, 0) 0 [some (xr 12 0), some (xi x1), some (xi x2), none] [] h (PoI r)) := by
  intro n
  induction n with
  | zero => exact fun _ _ _ _ hF => no_e (r := r) hF
  | succ n ih => exact fun x1 x2 h hL hF => t_X12_numeral_0 E d (g_X12_numeral n) r  x1 x2 h hL hF
theorem c_X12_numeral (d : Nat) (x1 x2 : Int) (h : Hp) (r : Int × Hp) (hL : Lay h) (hF : f_X12_numeral x1 x2 h = some r) : Sp mX12_numeral (d + 8) (0, 0) [xr 12 0, xi x1, xi x2] h (PoI r) :=
  sp_of (by decide) rfl (Nat.le_of_ble_eq_true rfl) (ls := [some (xr 12 0), some (xi x1), some (xi x2), none]) rfl (fun E _ => (u_X12_numeral E d r FU) x1 x2 h hL hF)
theorem dX12_windLine_0 : decode cX12_windLine 0 = .ok (.iconst 0, 1) := by decide +kernel
theorem dX12_windLine_1 : decode cX12_windLine 1 = .ok (.istore_n 1, 1) := by decide +kernel
theorem dX12_windLine_2 : decode cX12_windLine 2 = .ok (.aload_n 0, 1) := by decide +kernel
theorem dX12_windLine_3 : decode cX12_windLine 3 = .ok (.getfield 213, 3) := by decide +kernel
theorem dX12_windLine_6 : decode cX12_windLine 6 = .ok (.iconst 2, 1) := by decide +kernel
theorem dX12_windLine_7 : decode cX12_windLine 7 = .ok (.if_icmp .ne 14, 3) := by decide +kernel
theorem dX12_windLine_10 : decode cX12_windLine 10 = .ok (.iload_n 1, 1) := by decide +kernel
theorem dX12_windLine_11 : decode cX12_windLine 11 = .ok (.bipush 8, 2) := by decide +kernel
theorem dX12_windLine_13 : decode cX12_windLine 13 = .ok (.if_icmp .ne 8, 3) := by decide +kernel
theorem dX12_windLine_16 : decode cX12_windLine 16 = .ok (.aload_n 0, 1) := by decide +kernel
theorem dX12_windLine_17 : decode cX12_windLine 17 = .ok (.iconst 2, 1) := by decide +kernel
theorem dX12_windLine_18 : decode cX12_windLine 18 = .ok (.invokevirtual 256, 3) := by decide +kernel
theorem dX12_windLine_21 : decode cX12_windLine 21 = .ok (.aload_n 0, 1) := by decide +kernel
theorem dX12_windLine_22 : decode cX12_windLine 22 = .ok (.iconst 0, 1) := by decide +kernel
theorem dX12_windLine_23 : decode cX12_windLine 23 = .ok (.iconst 3, 1) := by decide +kernel
theorem dX12_windLine_24 : decode cX12_windLine 24 = .ok (.invokevirtual 270, 3) := by decide +kernel
theorem dX12_windLine_27 : decode cX12_windLine 27 = .ok (.istore_n 2, 1) := by decide +kernel
theorem dX12_windLine_28 : decode cX12_windLine 28 = .ok (.aload_n 0, 1) := by decide +kernel
theorem dX12_windLine_29 : decode cX12_windLine 29 = .ok (.getfield 247, 3) := by decide +kernel
theorem dX12_windLine_32 : decode cX12_windLine 32 = .ok (.ifCond .eq 4, 3) := by decide +kernel
theorem dX12_windLine_35 : decode cX12_windLine 35 = .ok (.return_, 1) := by decide +kernel
theorem dX12_windLine_36 : decode cX12_windLine 36 = .ok (.aload_n 0, 1) := by decide +kernel
theorem dX12_windLine_37 : decode cX12_windLine 37 = .ok (.getfield 32, 3) := by decide +kernel
theorem dX12_windLine_40 : decode cX12_windLine 40 = .ok (.bipush 8, 2) := by decide +kernel
theorem dX12_windLine_42 : decode cX12_windLine 42 = .ok (.iload_n 1, 1) := by decide +kernel
theorem dX12_windLine_43 : decode cX12_windLine 43 = .ok (.iadd, 1) := by decide +kernel
theorem dX12_windLine_44 : decode cX12_windLine 44 = .ok (.iload_n 2, 1) := by decide +kernel
theorem dX12_windLine_45 : decode cX12_windLine 45 = .ok (.iastore, 1) := by decide +kernel
theorem dX12_windLine_46 : decode cX12_windLine 46 = .ok (.iinc 1 1, 3) := by decide +kernel
theorem dX12_windLine_49 : decode cX12_windLine 49 = .ok (.aload_n 0, 1) := by decide +kernel
theorem dX12_windLine_50 : decode cX12_windLine 50 = .ok (.getfield 213, 3) := by decide +kernel
theorem dX12_windLine_53 : decode cX12_windLine 53 = .ok (.iconst 2, 1) := by decide +kernel
theorem dX12_windLine_54 : decode cX12_windLine 54 = .ok (.if_icmp .eq (-52), 3) := by decide +kernel
theorem dX12_windLine_57 : decode cX12_windLine 57 = .ok (.aload_n 0, 1) := by decide +kernel
theorem dX12_windLine_58 : decode cX12_windLine 58 = .ok (.bipush 6, 2) := by decide +kernel
theorem dX12_windLine_60 : decode cX12_windLine 60 = .ok (.iload_n 1, 1) := by decide +kernel
theorem dX12_windLine_61 : decode cX12_windLine 61 = .ok (.invokevirtual 288, 3) := by decide +kernel
theorem dX12_windLine_64 : decode cX12_windLine 64 = .ok (.return_, 1) := by decide +kernel
noncomputable def b_X12_windLine_0 (rec : Rk) (h : Hp) : Option (Int × Hp) :=
  rec 1 [0] h
noncomputable def b_X12_windLine_1 (rec : Rk) (x1 : Int) (h : Hp) : Option (Int × Hp) :=
  if (gI h 12 0 30) = 2 then (
    if x1 = 8 then (
      bd (f_X12_wrong 2 h) fun v1 h2 =>
      rec 2 [x1] h2
    ) else (
      rec 2 [x1] h
    )
  ) else (
    rec 2 [x1] h
  )
noncomputable def b_X12_windLine_2 (rec : Rk) (x1 : Int) (h : Hp) : Option (Int × Hp) :=
  bd (f_X12_numeral 0 3 h) fun v1 h2 =>
  if (gI h2 12 0 32) = 0 then (
    ck (-2147483648 ≤ 8 + x1 ∧ 8 + x1 < 2147483648) <|
    ck (0 ≤ (8 + x1) ∧ (8 + x1) < 16) <|
    lt (sI h2 67 0 (8 + x1) v1) fun h3 =>
    ck (-2147483648 ≤ x1 + 1 ∧ x1 + 1 < 2147483648) <|
    if (gI h3 12 0 30) = 2 then (
      rec 1 [x1 + 1] h3
    ) else (
      bd (f_X12_reads 6 (x1 + 1) h3) fun v4 h5 =>
      some (0, h5)
    )
  ) else (
    some (0, h2)
  )
noncomputable def g_X12_windLine (n : Nat) : Rk := Nat.rec (motive := fun _ => Rk) (fun _ _ _ => none) (fun _ rec k l h => if k = 0 then b_X12_windLine_0 rec  h else if k = 1 then b_X12_windLine_1 rec (l.getD 0 0) h else if k = 2 then b_X12_windLine_2 rec (l.getD 0 0) h else none) n
noncomputable def f_X12_windLine (h : Hp) : Option (Int × Hp) := g_X12_windLine FU 0 [] h
set_option maxHeartbeats 4000000 in
set_option maxRecDepth 100000 in
theorem t_X12_windLine_0 (E : xE) (d : Nat) (rec : Rk) (r : Int × Hp) (hr_2 : ∀ (x1 : Int) (h : Hp), Lay h → rec 1 [x1] h = some r → X E mX12_windLine (d + 9) (0, 0) (0, 0) 2 [some (xr 12 0), some (xi x1), none] [] h (PoV r)) (h : Hp) (hL : Lay h) (hF : b_X12_windLine_0 rec  h = some r) : X E mX12_windLine (d + 9) (0, 0) (0, 0) 0 [some (xr 12 0), none, none] [] h (PoV r) := by
  unfold b_X12_windLine_0 at hF
  refine x_iconst (n := 0) (b := 1) dX12_windLine_0 (by decide) rfl ?_
  refine x_istore_n (i := 1) (b := 2) (ls2 := [some (xr 12 0), some (xi 0), none]) dX12_windLine_1 rfl (Nat.le_of_ble_eq_true rfl) rfl rfl ?_
  exact x_dp (ls2 := [some (xr 12 0), some (xi 0), none]) ⟨rfl, rfl, trivial⟩ (hr_2 0 h hL hF)
set_option maxHeartbeats 4000000 in
set_option maxRecDepth 100000 in
theorem t_X12_windLine_1 (E : xE) (d : Nat) (rec : Rk) (r : Int × Hp) (hr_21 : ∀ (x1 : Int) (h : Hp), Lay h → rec 2 [x1] h = some r → X E mX12_windLine (d + 9) (0, 0) (0, 0) 21 [some (xr 12 0), some (xi x1), none] [] h (PoV r)) (x1 : Int) (h : Hp) (hL : Lay h) (hF : b_X12_windLine_1 rec x1 h = some r) : X E mX12_windLine (d + 9) (0, 0) (0, 0) 2 [some (xr 12 0), some (xi x1), none] [] h (PoV r) := by
  unfold b_X12_windLine_1 at hF
  refine x_aload_n (i := 0) (b := 3) dX12_windLine_2 rfl rfl rfl ?_
  refine x_getI (v := gI h 12 0 30) (b := 6) fk_X12_213 dX12_windLine_3 (by decide) rfl rfl ?_
  refine x_iconst (n := 2) (b := 7) dX12_windLine_6 (by decide) rfl ?_
  refine x_icmp_ne (tgt := 21) (b := 10) dX12_windLine_7 (by decide) rfl (fun hc => ?_) (fun hc => ?_)
  · replace hF := br_F hc hF
    exact x_dp (ls2 := [some (xr 12 0), some (xi x1), none]) ⟨rfl, rfl, trivial⟩ (hr_21 x1 h hL hF)
  · replace hF := br_T hc hF
    refine x_iload_n (i := 1) (b := 11) dX12_windLine_10 rfl rfl rfl ?_
    refine x_bipush (n := 8) (b := 13) dX12_windLine_11 (by decide) rfl ?_
    refine x_icmp_ne (tgt := 21) (b := 16) dX12_windLine_13 (by decide) rfl (fun hc => ?_) (fun hc => ?_)
    · replace hF := br_F hc hF
      exact x_dp (ls2 := [some (xr 12 0), some (xi x1), none]) ⟨rfl, rfl, trivial⟩ (hr_21 x1 h hL hF)
    · replace hF := br_T hc hF
      refine x_aload_n (i := 0) (b := 17) dX12_windLine_16 rfl rfl rfl ?_
      refine x_iconst (n := 2) (b := 18) dX12_windLine_17 (by decide) rfl ?_
      obtain ⟨v1, h2, hq, hF⟩ := bd_e hF
      refine x_callV (as := [xi 2]) (rest := []) (b := 21) (c_X12_wrong (d + 7) 2 h _ hL hq) dX12_windLine_18 cw_X12_256 ⟨_, _, rfl, Nat.le_of_ble_eq_true rfl⟩ rfl rfl (Nat.le_of_ble_eq_true rfl) ⟨Nat.le_refl _, Nat.le_refl _⟩ rfl (fun rv hh hp _ => ?_)
      obtain ⟨rfl, rfl, hL⟩ := hp
      exact x_dp (ls2 := [some (xr 12 0), some (xi x1), none]) ⟨rfl, rfl, trivial⟩ (hr_21 x1 h2 hL hF)
set_option maxHeartbeats 4000000 in
set_option maxRecDepth 100000 in
theorem t_X12_windLine_2 (E : xE) (d : Nat) (rec : Rk) (r : Int × Hp) (hr_2 : ∀ (x1 : Int) (h : Hp), Lay h → rec 1 [x1] h = some r → X E mX12_windLine (d + 9) (0, 0) (0, 0) 2 [some (xr 12 0), some (xi x1), none] [] h (PoV r)) (x1 : Int) (h : Hp) (hL : Lay h) (hF : b_X12_windLine_2 rec x1 h = some r) : X E mX12_windLine (d + 9) (0, 0) (0, 0) 21 [some (xr 12 0), some (xi x1), none] [] h (PoV r) := by
  unfold b_X12_windLine_2 at hF
  refine x_aload_n (i := 0) (b := 22) dX12_windLine_21 rfl rfl rfl ?_
  refine x_iconst (n := 0) (b := 23) dX12_windLine_22 (by decide) rfl ?_
  refine x_iconst (n := 3) (b := 24) dX12_windLine_23 (by decide) rfl ?_
  obtain ⟨v1, h2, hq, hF⟩ := bd_e hF
  refine x_callV (as := [xi 0, xi 3]) (rest := []) (b := 27) (c_X12_numeral d 0 3 h _ hL hq) dX12_windLine_24 cw_X12_270 ⟨_, _, rfl, Nat.le_of_ble_eq_true rfl⟩ rfl rfl (Nat.le_of_ble_eq_true rfl) ⟨Nat.le_refl _, Nat.le_refl _⟩ rfl (fun rv hh hp _ => ?_)
  obtain ⟨rfl, rfl, hL⟩ := hp
  refine x_istore_n (i := 2) (b := 28) (ls2 := [some (xr 12 0), some (xi x1), some (xi v1)]) dX12_windLine_27 rfl (Nat.le_of_ble_eq_true rfl) rfl rfl ?_
  refine x_aload_n (i := 0) (b := 29) dX12_windLine_28 rfl rfl rfl ?_
  refine x_getI (v := gI h2 12 0 32) (b := 32) fk_X12_247 dX12_windLine_29 (by decide) rfl rfl ?_
  refine x_if_eq (tgt := 36) (b := 35) dX12_windLine_32 (by decide) rfl (fun hc => ?_) (fun hc => ?_)
  · replace hF := br_T hc hF
    refine x_aload_n (i := 0) (b := 37) dX12_windLine_36 rfl rfl rfl ?_
    refine x_getL (j := 0) (t := (67, 0, true)) (b := 40) fk_X12_32 dX12_windLine_37 rfl hL rfl rfl rfl ?_
    refine x_bipush (n := 8) (b := 42) dX12_windLine_40 (by decide) rfl ?_
    refine x_iload_n (i := 1) (b := 43) dX12_windLine_42 rfl rfl rfl ?_
    obtain ⟨hs, hF⟩ := ck_e hF
    refine x_iadd (b := 44) dX12_windLine_43 hs rfl ?_
    refine x_iload_n (i := 2) (b := 45) dX12_windLine_44 rfl rfl rfl ?_
    obtain ⟨hs, hF⟩ := ck_e hF
    have hs1 := hs
    refine x_iast (b := 46) ak_67 dX12_windLine_45 hs1 rfl ?_
    obtain ⟨h3, e_h3, hF⟩ := lt_e hF
    refine x_hp (h2 := h3) e_h3 ?_
    replace hL : Lay h3 := by rw [← e_h3]; exact hL
    obtain ⟨hs, hF⟩ := ck_e hF
    refine x_iinc (i := 1) (b := 49) (ls2 := [some (xr 12 0), some (xi (x1 + 1)), some (xi v1)]) dX12_windLine_46 rfl (Nat.le_of_ble_eq_true rfl) hs rfl rfl ?_
    refine x_aload_n (i := 0) (b := 50) dX12_windLine_49 rfl rfl rfl ?_
    refine x_getI (v := gI h3 12 0 30) (b := 53) fk_X12_213 dX12_windLine_50 (by decide) rfl rfl ?_
    refine x_iconst (n := 2) (b := 54) dX12_windLine_53 (by decide) rfl ?_
    refine x_icmp_eq (tgt := 2) (b := 57) dX12_windLine_54 (by decide) rfl (fun hc => ?_) (fun hc => ?_)
    · replace hF := br_T hc hF
      exact x_dp (ls2 := [some (xr 12 0), some (xi (x1 + 1)), none]) ⟨rfl, rfl, trivial⟩ (hr_2 (x1 + 1) h3 hL hF)
    · replace hF := br_F hc hF
      refine x_aload_n (i := 0) (b := 58) dX12_windLine_57 rfl rfl rfl ?_
      refine x_bipush (n := 6) (b := 60) dX12_windLine_58 (by decide) rfl ?_
      refine x_iload_n (i := 1) (b := 61) dX12_windLine_60 rfl rfl rfl ?_
      obtain ⟨v4, h5, hq, hF⟩ := bd_e hF
      refine x_callV (as := [xi 6, xi (x1 + 1)]) (rest := []) (b := 64) (c_X12_reads (d + 7) 6 (x1 + 1) h3 _ hL hq) dX12_windLine_61 cw_X12_288 ⟨_, _, rfl, Nat.le_of_ble_eq_true rfl⟩ rfl rfl (Nat.le_of_ble_eq_true rfl) ⟨Nat.le_refl _, Nat.le_refl _⟩ rfl (fun rv hh hp _ => ?_)
      obtain ⟨rfl, rfl, hL⟩ := hp
      refine x_return dX12_windLine_64 rfl ⟨Nat.le_refl _, Nat.le_refl _⟩ ?_
      cases hF
      exact ⟨rfl, rfl, hL⟩
  · replace hF := br_F hc hF
    refine x_return dX12_windLine_35 rfl ⟨Nat.le_refl _, Nat.le_refl _⟩ ?_
    cases hF
    exact ⟨rfl, rfl, hL⟩
set_option maxHeartbeats 4000000 in
set_option maxRecDepth 100000 in
theorem u_X12_windLine (E : xE) (d : Nat) (r : Int × Hp) : ∀ n : Nat, (∀ (h : Hp), Lay h → g_X12_windLine n 0 [] h = some r → X E mX12_windLine (d + 9) (0, 0) (0, 0) 0 [some (xr 12 0), none, none] [] h (PoV r)) ∧ (∀ (x1 : Int) (h : Hp), Lay h → g_X12_windLine n 1 [x1] h = some r → X E mX12_windLine (d + 9) (0, 0) (0, 0) 2 [some (xr 12 0), some (xi x1), none] [] h (PoV r)) ∧ (∀ (x1 : Int) (h : Hp), Lay h → g_X12_windLine n 2 [x1] h = some r → X E mX12_windLine (d + 9) (0, 0) (0, 0) 21 [some (xr 12 0), some (xi x1), none] [] h (PoV r)) := by
  intro n
  induction n with
  | zero => exact ⟨fun _ _ hF => no_e (r := r) hF, fun _ _ _ hF => no_e (r := r) hF, fun _ _ _ hF => no_e (r := r) hF⟩
  | succ n ih => exact ⟨fun h hL hF => t_X12_windLine_0 E d (g_X12_windLine n) r ih.2.1  h hL hF, fun x1 h hL hF => t_X12_windLine_1 E d (g_X12_windLine n) r ih.2.2 x1 h hL hF, fun x1 h hL hF => t_X12_windLine_2 E d (g_X12_windLine n) r ih.2.1 x1 h hL hF⟩
theorem c_X12_windLine (d : Nat) (h : Hp) (r : Int × Hp) (hL : Lay h) (hF : f_X12_windLine  h = some r) : Sp mX12_windLine (d + 9) (0, 0) [xr 12 0] h (PoV r) :=
  sp_of (by decide) rfl (Nat.le_of_ble_eq_true rfl) (ls := [some (xr 12 0), none, none]) rfl (fun E _ => (u_X12_windLine E d r FU).1  h hL hF)
theorem dX12_cellAtHand_0 : decode cX12_cellAtHand 0 = .ok (.aload_n 0, 1) := by decide +kernel
theorem dX12_cellAtHand_1 : decode cX12_cellAtHand 1 = .ok (.iconst 0, 1) := by decide +kernel
theorem dX12_cellAtHand_2 : decode cX12_cellAtHand 2 = .ok (.aload_n 0, 1) := by decide +kernel
theorem dX12_cellAtHand_3 : decode cX12_cellAtHand 3 = .ok (.iconst 0, 1) := by decide +kernel
theorem dX12_cellAtHand_4 : decode cX12_cellAtHand 4 = .ok (.invokevirtual 266, 3) := by decide +kernel
theorem dX12_cellAtHand_7 : decode cX12_cellAtHand 7 = .ok (.iconst 1, 1) := by decide +kernel
theorem dX12_cellAtHand_8 : decode cX12_cellAtHand 8 = .ok (.isub, 1) := by decide +kernel
theorem dX12_cellAtHand_9 : decode cX12_cellAtHand 9 = .ok (.invokevirtual 270, 3) := by decide +kernel
theorem dX12_cellAtHand_12 : decode cX12_cellAtHand 12 = .ok (.istore_n 1, 1) := by decide +kernel
theorem dX12_cellAtHand_13 : decode cX12_cellAtHand 13 = .ok (.aload_n 0, 1) := by decide +kernel
theorem dX12_cellAtHand_14 : decode cX12_cellAtHand 14 = .ok (.iconst 0, 1) := by decide +kernel
theorem dX12_cellAtHand_15 : decode cX12_cellAtHand 15 = .ok (.aload_n 0, 1) := by decide +kernel
theorem dX12_cellAtHand_16 : decode cX12_cellAtHand 16 = .ok (.iconst 1, 1) := by decide +kernel
theorem dX12_cellAtHand_17 : decode cX12_cellAtHand 17 = .ok (.invokevirtual 266, 3) := by decide +kernel
theorem dX12_cellAtHand_20 : decode cX12_cellAtHand 20 = .ok (.iconst 1, 1) := by decide +kernel
theorem dX12_cellAtHand_21 : decode cX12_cellAtHand 21 = .ok (.isub, 1) := by decide +kernel
theorem dX12_cellAtHand_22 : decode cX12_cellAtHand 22 = .ok (.invokevirtual 259, 3) := by decide +kernel
theorem dX12_cellAtHand_25 : decode cX12_cellAtHand 25 = .ok (.istore_n 2, 1) := by decide +kernel
theorem dX12_cellAtHand_26 : decode cX12_cellAtHand 26 = .ok (.iload_n 2, 1) := by decide +kernel
theorem dX12_cellAtHand_27 : decode cX12_cellAtHand 27 = .ok (.aload_n 0, 1) := by decide +kernel
theorem dX12_cellAtHand_28 : decode cX12_cellAtHand 28 = .ok (.iconst 0, 1) := by decide +kernel
theorem dX12_cellAtHand_29 : decode cX12_cellAtHand 29 = .ok (.invokevirtual 266, 3) := by decide +kernel
theorem dX12_cellAtHand_32 : decode cX12_cellAtHand 32 = .ok (.imul, 1) := by decide +kernel
theorem dX12_cellAtHand_33 : decode cX12_cellAtHand 33 = .ok (.iload_n 1, 1) := by decide +kernel
theorem dX12_cellAtHand_34 : decode cX12_cellAtHand 34 = .ok (.iadd, 1) := by decide +kernel
theorem dX12_cellAtHand_35 : decode cX12_cellAtHand 35 = .ok (.ireturn, 1) := by decide +kernel
noncomputable def b_X12_cellAtHand_0 (rec : Rk) (h : Hp) : Option (Int × Hp) :=
  bd (f_X12_fresher 0 h) fun v1 h2 =>
  ck (-2147483648 ≤ v1 - 1 ∧ v1 - 1 < 2147483648) <|
  bd (f_X12_numeral 0 (v1 - 1) h2) fun v3 h4 =>
  bd (f_X12_fresher 1 h4) fun v5 h6 =>
  ck (-2147483648 ≤ v5 - 1 ∧ v5 - 1 < 2147483648) <|
  bd (f_X12_numeralAtHand 0 (v5 - 1) h6) fun v7 h8 =>
  bd (f_X12_fresher 0 h8) fun v9 h10 =>
  ck (-2147483648 ≤ v7 * v9 ∧ v7 * v9 < 2147483648) <|
  ck (-2147483648 ≤ (v7 * v9) + v3 ∧ (v7 * v9) + v3 < 2147483648) <|
  some ((v7 * v9) + v3, h10)
noncomputable def g_X12_cellAtHand (n : Nat) : Rk := Nat.rec (motive := fun _ => Rk) (fun _ _ _ => none) (fun _ rec k l h => if k = 0 then b_X12_cellAtHand_0 rec  h else none) n
noncomputable def f_X12_cellAtHand (h : Hp) : Option (Int × Hp) := g_X12_cellAtHand FU 0 [] h
set_option maxHeartbeats 4000000 in
set_option maxRecDepth 100000 in
theorem t_X12_cellAtHand_0 (E : xE) (d : Nat) (rec : Rk) (r : Int × Hp) (h : Hp) (hL : Lay h) (hF : b_X12_cellAtHand_0 rec  h = some r) : X E mX12_cellAtHand (d + 9) (0, 0) (0, 0) 0 [some (xr 12 0), none, none] [] h (PoI r) := by
  unfold b_X12_cellAtHand_0 at hF
  refine x_aload_n (i := 0) (b := 1) dX12_cellAtHand_0 rfl rfl rfl ?_
  refine x_iconst (n := 0) (b := 2) dX12_cellAtHand_1 (by decide) rfl ?_
  refine x_aload_n (i := 0) (b := 3) dX12_cellAtHand_2 rfl rfl rfl ?_
  refine x_iconst (n := 0) (b := 4) dX12_cellAtHand_3 (by decide) rfl ?_
  obtain ⟨v1, h2, hq, hF⟩ := bd_e hF
  refine x_callV (as := [xi 0]) (rest := [xi 0, xr 12 0]) (b := 7) (c_X12_fresher (d + 7) 0 h _ hL hq) dX12_cellAtHand_4 cw_X12_266 ⟨_, _, rfl, Nat.le_of_ble_eq_true rfl⟩ rfl rfl (Nat.le_of_ble_eq_true rfl) ⟨Nat.le_refl _, Nat.le_refl _⟩ rfl (fun rv hh hp _ => ?_)
  obtain ⟨rfl, rfl, hL⟩ := hp
  refine x_iconst (n := 1) (b := 8) dX12_cellAtHand_7 (by decide) rfl ?_
  obtain ⟨hs, hF⟩ := ck_e hF
  refine x_isub (b := 9) dX12_cellAtHand_8 hs rfl ?_
  obtain ⟨v3, h4, hq, hF⟩ := bd_e hF
  refine x_callV (as := [xi 0, xi (v1 - 1)]) (rest := []) (b := 12) (c_X12_numeral d 0 (v1 - 1) h2 _ hL hq) dX12_cellAtHand_9 cw_X12_270 ⟨_, _, rfl, Nat.le_of_ble_eq_true rfl⟩ rfl rfl (Nat.le_of_ble_eq_true rfl) ⟨Nat.le_refl _, Nat.le_refl _⟩ rfl (fun rv hh hp _ => ?_)
  obtain ⟨rfl, rfl, hL⟩ := hp
  refine x_istore_n (i := 1) (b := 13) (ls2 := [some (xr 12 0), some (xi v3), none]) dX12_cellAtHand_12 rfl (Nat.le_of_ble_eq_true rfl) rfl rfl ?_
  refine x_aload_n (i := 0) (b := 14) dX12_cellAtHand_13 rfl rfl rfl ?_
  refine x_iconst (n := 0) (b := 15) dX12_cellAtHand_14 (by decide) rfl ?_
  refine x_aload_n (i := 0) (b := 16) dX12_cellAtHand_15 rfl rfl rfl ?_
  refine x_iconst (n := 1) (b := 17) dX12_cellAtHand_16 (by decide) rfl ?_
  obtain ⟨v5, h6, hq, hF⟩ := bd_e hF
  refine x_callV (as := [xi 1]) (rest := [xi 0, xr 12 0]) (b := 20) (c_X12_fresher (d + 7) 1 h4 _ hL hq) dX12_cellAtHand_17 cw_X12_266 ⟨_, _, rfl, Nat.le_of_ble_eq_true rfl⟩ rfl rfl (Nat.le_of_ble_eq_true rfl) ⟨Nat.le_refl _, Nat.le_refl _⟩ rfl (fun rv hh hp _ => ?_)
  obtain ⟨rfl, rfl, hL⟩ := hp
  refine x_iconst (n := 1) (b := 21) dX12_cellAtHand_20 (by decide) rfl ?_
  obtain ⟨hs, hF⟩ := ck_e hF
  refine x_isub (b := 22) dX12_cellAtHand_21 hs rfl ?_
  obtain ⟨v7, h8, hq, hF⟩ := bd_e hF
  refine x_callV (as := [xi 0, xi (v5 - 1)]) (rest := []) (b := 25) (c_X12_numeralAtHand (d + 6) 0 (v5 - 1) h6 _ hL hq) dX12_cellAtHand_22 cw_X12_259 ⟨_, _, rfl, Nat.le_of_ble_eq_true rfl⟩ rfl rfl (Nat.le_of_ble_eq_true rfl) ⟨Nat.le_refl _, Nat.le_refl _⟩ rfl (fun rv hh hp _ => ?_)
  obtain ⟨rfl, rfl, hL⟩ := hp
  refine x_istore_n (i := 2) (b := 26) (ls2 := [some (xr 12 0), some (xi v3), some (xi v7)]) dX12_cellAtHand_25 rfl (Nat.le_of_ble_eq_true rfl) rfl rfl ?_
  refine x_iload_n (i := 2) (b := 27) dX12_cellAtHand_26 rfl rfl rfl ?_
  refine x_aload_n (i := 0) (b := 28) dX12_cellAtHand_27 rfl rfl rfl ?_
  refine x_iconst (n := 0) (b := 29) dX12_cellAtHand_28 (by decide) rfl ?_
  obtain ⟨v9, h10, hq, hF⟩ := bd_e hF
  refine x_callV (as := [xi 0]) (rest := [xi v7]) (b := 32) (c_X12_fresher (d + 7) 0 h8 _ hL hq) dX12_cellAtHand_29 cw_X12_266 ⟨_, _, rfl, Nat.le_of_ble_eq_true rfl⟩ rfl rfl (Nat.le_of_ble_eq_true rfl) ⟨Nat.le_refl _, Nat.le_refl _⟩ rfl (fun rv hh hp _ => ?_)
  obtain ⟨rfl, rfl, hL⟩ := hp
  obtain ⟨hs, hF⟩ := ck_e hF
  refine x_imul (b := 33) dX12_cellAtHand_32 hs rfl ?_
  refine x_iload_n (i := 1) (b := 34) dX12_cellAtHand_33 rfl rfl rfl ?_
  obtain ⟨hs, hF⟩ := ck_e hF
  refine x_iadd (b := 35) dX12_cellAtHand_34 hs rfl ?_
  refine x_ireturn dX12_cellAtHand_35 rfl ⟨Nat.le_refl _, Nat.le_refl _⟩ ?_
  cases hF
  exact ⟨rfl, rfl, hL⟩
set_option maxHeartbeats 4000000 in
set_option maxRecDepth 100000 in
theorem u_X12_cellAtHand (E : xE) (d : Nat) (r : Int × Hp) : ∀ n : Nat, (∀ (h : Hp), Lay h → g_X12_cellAtHand n 0 [] h = some r → X E mX12_cellAtHand (d + 9) (0, 0) (0, 0) 0 [some (xr 12 0), none, none] [] h (PoI r)) := by
  intro n
  induction n with
  | zero => exact fun _ _ hF => no_e (r := r) hF
  | succ n ih => exact fun h hL hF => t_X12_cellAtHand_0 E d (g_X12_cellAtHand n) r   h hL hF
theorem c_X12_cellAtHand (d : Nat) (h : Hp) (r : Int × Hp) (hL : Lay h) (hF : f_X12_cellAtHand  h = some r) : Sp mX12_cellAtHand (d + 9) (0, 0) [xr 12 0] h (PoI r) :=
  sp_of (by decide) rfl (Nat.le_of_ble_eq_true rfl) (ls := [some (xr 12 0), none, none]) rfl (fun E _ => (u_X12_cellAtHand E d r FU)  h hL hF)
theorem dX12_expression_0 : decode cX12_expression 0 = .ok (.aload_n 0, 1) := by decide +kernel
theorem dX12_expression_1 : decode cX12_expression 1 = .ok (.invokevirtual 330, 3) := by decide +kernel
theorem dX12_expression_4 : decode cX12_expression 4 = .ok (.aload_n 0, 1) := by decide +kernel
theorem dX12_expression_5 : decode cX12_expression 5 = .ok (.bipush 17, 2) := by decide +kernel
theorem dX12_expression_7 : decode cX12_expression 7 = .ok (.invokevirtual 321, 3) := by decide +kernel
theorem dX12_expression_10 : decode cX12_expression 10 = .ok (.ifCond .eq 26, 3) := by decide +kernel
theorem dX12_expression_13 : decode cX12_expression 13 = .ok (.aload_n 0, 1) := by decide +kernel
theorem dX12_expression_14 : decode cX12_expression 14 = .ok (.invokevirtual 333, 3) := by decide +kernel
theorem dX12_expression_17 : decode cX12_expression 17 = .ok (.aload_n 0, 1) := by decide +kernel
theorem dX12_expression_18 : decode cX12_expression 18 = .ok (.invokevirtual 263, 3) := by decide +kernel
theorem dX12_expression_21 : decode cX12_expression 21 = .ok (.aload_n 0, 1) := by decide +kernel
theorem dX12_expression_22 : decode cX12_expression 22 = .ok (.invokevirtual 330, 3) := by decide +kernel
theorem dX12_expression_25 : decode cX12_expression 25 = .ok (.aload_n 0, 1) := by decide +kernel
theorem dX12_expression_26 : decode cX12_expression 26 = .ok (.iconst 2, 1) := by decide +kernel
theorem dX12_expression_27 : decode cX12_expression 27 = .ok (.sipush 262, 3) := by decide +kernel
theorem dX12_expression_30 : decode cX12_expression 30 = .ok (.invokevirtual 336, 3) := by decide +kernel
theorem dX12_expression_33 : decode cX12_expression 33 = .ok (.goto (-29), 3) := by decide +kernel
theorem dX12_expression_36 : decode cX12_expression 36 = .ok (.return_, 1) := by decide +kernel
theorem dX12_conjunction_0 : decode cX12_conjunction 0 = .ok (.aload_n 0, 1) := by decide +kernel
theorem dX12_conjunction_1 : decode cX12_conjunction 1 = .ok (.invokevirtual 339, 3) := by decide +kernel
theorem dX12_conjunction_4 : decode cX12_conjunction 4 = .ok (.aload_n 0, 1) := by decide +kernel
theorem dX12_conjunction_5 : decode cX12_conjunction 5 = .ok (.bipush 18, 2) := by decide +kernel
theorem dX12_conjunction_7 : decode cX12_conjunction 7 = .ok (.invokevirtual 321, 3) := by decide +kernel
theorem dX12_conjunction_10 : decode cX12_conjunction 10 = .ok (.ifCond .eq 26, 3) := by decide +kernel
theorem dX12_conjunction_13 : decode cX12_conjunction 13 = .ok (.aload_n 0, 1) := by decide +kernel
theorem dX12_conjunction_14 : decode cX12_conjunction 14 = .ok (.invokevirtual 333, 3) := by decide +kernel
theorem dX12_conjunction_17 : decode cX12_conjunction 17 = .ok (.aload_n 0, 1) := by decide +kernel
theorem dX12_conjunction_18 : decode cX12_conjunction 18 = .ok (.invokevirtual 263, 3) := by decide +kernel
theorem dX12_conjunction_21 : decode cX12_conjunction 21 = .ok (.aload_n 0, 1) := by decide +kernel
theorem dX12_conjunction_22 : decode cX12_conjunction 22 = .ok (.invokevirtual 339, 3) := by decide +kernel
theorem dX12_conjunction_25 : decode cX12_conjunction 25 = .ok (.aload_n 0, 1) := by decide +kernel
theorem dX12_conjunction_26 : decode cX12_conjunction 26 = .ok (.iconst 2, 1) := by decide +kernel
theorem dX12_conjunction_27 : decode cX12_conjunction 27 = .ok (.sipush 261, 3) := by decide +kernel
theorem dX12_conjunction_30 : decode cX12_conjunction 30 = .ok (.invokevirtual 336, 3) := by decide +kernel
theorem dX12_conjunction_33 : decode cX12_conjunction 33 = .ok (.goto (-29), 3) := by decide +kernel
theorem dX12_conjunction_36 : decode cX12_conjunction 36 = .ok (.return_, 1) := by decide +kernel
theorem dX12_negation_0 : decode cX12_negation 0 = .ok (.aload_n 0, 1) := by decide +kernel
theorem dX12_negation_1 : decode cX12_negation 1 = .ok (.bipush 19, 2) := by decide +kernel
theorem dX12_negation_3 : decode cX12_negation 3 = .ok (.invokevirtual 321, 3) := by decide +kernel
theorem dX12_negation_6 : decode cX12_negation 6 = .ok (.ifCond .eq 24, 3) := by decide +kernel
theorem dX12_negation_9 : decode cX12_negation 9 = .ok (.aload_n 0, 1) := by decide +kernel
theorem dX12_negation_10 : decode cX12_negation 10 = .ok (.invokevirtual 333, 3) := by decide +kernel
theorem dX12_negation_13 : decode cX12_negation 13 = .ok (.aload_n 0, 1) := by decide +kernel
theorem dX12_negation_14 : decode cX12_negation 14 = .ok (.invokevirtual 263, 3) := by decide +kernel
theorem dX12_negation_17 : decode cX12_negation 17 = .ok (.aload_n 0, 1) := by decide +kernel
theorem dX12_negation_18 : decode cX12_negation 18 = .ok (.invokevirtual 339, 3) := by decide +kernel
theorem dX12_negation_21 : decode cX12_negation 21 = .ok (.aload_n 0, 1) := by decide +kernel
theorem dX12_negation_22 : decode cX12_negation 22 = .ok (.iconst 2, 1) := by decide +kernel
theorem dX12_negation_23 : decode cX12_negation 23 = .ok (.sipush 260, 3) := by decide +kernel
theorem dX12_negation_26 : decode cX12_negation 26 = .ok (.invokevirtual 336, 3) := by decide +kernel
theorem dX12_negation_29 : decode cX12_negation 29 = .ok (.return_, 1) := by decide +kernel
theorem dX12_negation_30 : decode cX12_negation 30 = .ok (.aload_n 0, 1) := by decide +kernel
theorem dX12_negation_31 : decode cX12_negation 31 = .ok (.invokevirtual 342, 3) := by decide +kernel
theorem dX12_negation_34 : decode cX12_negation 34 = .ok (.aload_n 0, 1) := by decide +kernel
theorem dX12_negation_35 : decode cX12_negation 35 = .ok (.getfield 247, 3) := by decide +kernel
theorem dX12_negation_38 : decode cX12_negation 38 = .ok (.ifCond .ne 48, 3) := by decide +kernel
theorem dX12_negation_41 : decode cX12_negation 41 = .ok (.aload_n 0, 1) := by decide +kernel
theorem dX12_negation_42 : decode cX12_negation 42 = .ok (.getfield 213, 3) := by decide +kernel
theorem dX12_negation_45 : decode cX12_negation 45 = .ok (.iconst 3, 1) := by decide +kernel
theorem dX12_negation_46 : decode cX12_negation 46 = .ok (.if_icmp .ne 40, 3) := by decide +kernel
theorem dX12_negation_49 : decode cX12_negation 49 = .ok (.aload_n 0, 1) := by decide +kernel
theorem dX12_negation_50 : decode cX12_negation 50 = .ok (.getfield 223, 3) := by decide +kernel
theorem dX12_negation_53 : decode cX12_negation 53 = .ok (.bipush 60, 2) := by decide +kernel
theorem dX12_negation_55 : decode cX12_negation 55 = .ok (.if_icmp .eq 32, 3) := by decide +kernel
theorem dX12_negation_58 : decode cX12_negation 58 = .ok (.aload_n 0, 1) := by decide +kernel
theorem dX12_negation_59 : decode cX12_negation 59 = .ok (.getfield 223, 3) := by decide +kernel
theorem dX12_negation_62 : decode cX12_negation 62 = .ok (.bipush 62, 2) := by decide +kernel
theorem dX12_negation_64 : decode cX12_negation 64 = .ok (.if_icmp .eq 23, 3) := by decide +kernel
theorem dX12_negation_67 : decode cX12_negation 67 = .ok (.aload_n 0, 1) := by decide +kernel
theorem dX12_negation_68 : decode cX12_negation 68 = .ok (.getfield 223, 3) := by decide +kernel
theorem dX12_negation_71 : decode cX12_negation 71 = .ok (.bipush 61, 2) := by decide +kernel
theorem dX12_negation_73 : decode cX12_negation 73 = .ok (.if_icmp .eq 14, 3) := by decide +kernel
theorem dX12_negation_76 : decode cX12_negation 76 = .ok (.aload_n 0, 1) := by decide +kernel
theorem dX12_negation_77 : decode cX12_negation 77 = .ok (.getfield 223, 3) := by decide +kernel
theorem dX12_negation_80 : decode cX12_negation 80 = .ok (.sipush 256, 3) := by decide +kernel
theorem dX12_negation_83 : decode cX12_negation 83 = .ok (.if_icmp .ge 4, 3) := by decide +kernel
theorem dX12_negation_86 : decode cX12_negation 86 = .ok (.return_, 1) := by decide +kernel
theorem dX12_negation_87 : decode cX12_negation 87 = .ok (.aload_n 0, 1) := by decide +kernel
theorem dX12_negation_88 : decode cX12_negation 88 = .ok (.getfield 223, 3) := by decide +kernel
theorem dX12_negation_91 : decode cX12_negation 91 = .ok (.istore_n 1, 1) := by decide +kernel
theorem dX12_negation_92 : decode cX12_negation 92 = .ok (.aload_n 0, 1) := by decide +kernel
theorem dX12_negation_93 : decode cX12_negation 93 = .ok (.invokevirtual 333, 3) := by decide +kernel
theorem dX12_negation_96 : decode cX12_negation 96 = .ok (.aload_n 0, 1) := by decide +kernel
theorem dX12_negation_97 : decode cX12_negation 97 = .ok (.invokevirtual 263, 3) := by decide +kernel
theorem dX12_negation_100 : decode cX12_negation 100 = .ok (.aload_n 0, 1) := by decide +kernel
theorem dX12_negation_101 : decode cX12_negation 101 = .ok (.invokevirtual 342, 3) := by decide +kernel
theorem dX12_negation_104 : decode cX12_negation 104 = .ok (.aload_n 0, 1) := by decide +kernel
theorem dX12_negation_105 : decode cX12_negation 105 = .ok (.iconst 2, 1) := by decide +kernel
theorem dX12_negation_106 : decode cX12_negation 106 = .ok (.iload_n 1, 1) := by decide +kernel
theorem dX12_negation_107 : decode cX12_negation 107 = .ok (.invokevirtual 336, 3) := by decide +kernel
theorem dX12_negation_110 : decode cX12_negation 110 = .ok (.return_, 1) := by decide +kernel
theorem dX12_sum_0 : decode cX12_sum 0 = .ok (.aload_n 0, 1) := by decide +kernel
theorem dX12_sum_1 : decode cX12_sum 1 = .ok (.invokevirtual 345, 3) := by decide +kernel
theorem dX12_sum_4 : decode cX12_sum 4 = .ok (.aload_n 0, 1) := by decide +kernel
theorem dX12_sum_5 : decode cX12_sum 5 = .ok (.bipush 43, 2) := by decide +kernel
theorem dX12_sum_7 : decode cX12_sum 7 = .ok (.invokevirtual 308, 3) := by decide +kernel
theorem dX12_sum_10 : decode cX12_sum 10 = .ok (.ifCond .ne 12, 3) := by decide +kernel
theorem dX12_sum_13 : decode cX12_sum 13 = .ok (.aload_n 0, 1) := by decide +kernel
theorem dX12_sum_14 : decode cX12_sum 14 = .ok (.bipush 45, 2) := by decide +kernel
theorem dX12_sum_16 : decode cX12_sum 16 = .ok (.invokevirtual 308, 3) := by decide +kernel
theorem dX12_sum_19 : decode cX12_sum 19 = .ok (.ifCond .eq 29, 3) := by decide +kernel
theorem dX12_sum_22 : decode cX12_sum 22 = .ok (.aload_n 0, 1) := by decide +kernel
theorem dX12_sum_23 : decode cX12_sum 23 = .ok (.getfield 223, 3) := by decide +kernel
theorem dX12_sum_26 : decode cX12_sum 26 = .ok (.istore_n 1, 1) := by decide +kernel
theorem dX12_sum_27 : decode cX12_sum 27 = .ok (.aload_n 0, 1) := by decide +kernel
theorem dX12_sum_28 : decode cX12_sum 28 = .ok (.invokevirtual 333, 3) := by decide +kernel
theorem dX12_sum_31 : decode cX12_sum 31 = .ok (.aload_n 0, 1) := by decide +kernel
theorem dX12_sum_32 : decode cX12_sum 32 = .ok (.invokevirtual 263, 3) := by decide +kernel
theorem dX12_sum_35 : decode cX12_sum 35 = .ok (.aload_n 0, 1) := by decide +kernel
theorem dX12_sum_36 : decode cX12_sum 36 = .ok (.invokevirtual 345, 3) := by decide +kernel
theorem dX12_sum_39 : decode cX12_sum 39 = .ok (.aload_n 0, 1) := by decide +kernel
theorem dX12_sum_40 : decode cX12_sum 40 = .ok (.iconst 2, 1) := by decide +kernel
theorem dX12_sum_41 : decode cX12_sum 41 = .ok (.iload_n 1, 1) := by decide +kernel
theorem dX12_sum_42 : decode cX12_sum 42 = .ok (.invokevirtual 336, 3) := by decide +kernel
theorem dX12_sum_45 : decode cX12_sum 45 = .ok (.goto (-41), 3) := by decide +kernel
theorem dX12_sum_48 : decode cX12_sum 48 = .ok (.return_, 1) := by decide +kernel
theorem dX12_product_0 : decode cX12_product 0 = .ok (.aload_n 0, 1) := by decide +kernel
theorem dX12_product_1 : decode cX12_product 1 = .ok (.invokevirtual 348, 3) := by decide +kernel
theorem dX12_product_4 : decode cX12_product 4 = .ok (.aload_n 0, 1) := by decide +kernel
theorem dX12_product_5 : decode cX12_product 5 = .ok (.bipush 42, 2) := by decide +kernel
theorem dX12_product_7 : decode cX12_product 7 = .ok (.invokevirtual 308, 3) := by decide +kernel
theorem dX12_product_10 : decode cX12_product 10 = .ok (.ifCond .ne 12, 3) := by decide +kernel
theorem dX12_product_13 : decode cX12_product 13 = .ok (.aload_n 0, 1) := by decide +kernel
theorem dX12_product_14 : decode cX12_product 14 = .ok (.bipush 47, 2) := by decide +kernel
theorem dX12_product_16 : decode cX12_product 16 = .ok (.invokevirtual 308, 3) := by decide +kernel
theorem dX12_product_19 : decode cX12_product 19 = .ok (.ifCond .eq 29, 3) := by decide +kernel
theorem dX12_product_22 : decode cX12_product 22 = .ok (.aload_n 0, 1) := by decide +kernel
theorem dX12_product_23 : decode cX12_product 23 = .ok (.getfield 223, 3) := by decide +kernel
theorem dX12_product_26 : decode cX12_product 26 = .ok (.istore_n 1, 1) := by decide +kernel
theorem dX12_product_27 : decode cX12_product 27 = .ok (.aload_n 0, 1) := by decide +kernel
theorem dX12_product_28 : decode cX12_product 28 = .ok (.invokevirtual 333, 3) := by decide +kernel
theorem dX12_product_31 : decode cX12_product 31 = .ok (.aload_n 0, 1) := by decide +kernel
theorem dX12_product_32 : decode cX12_product 32 = .ok (.invokevirtual 263, 3) := by decide +kernel
theorem dX12_product_35 : decode cX12_product 35 = .ok (.aload_n 0, 1) := by decide +kernel
theorem dX12_product_36 : decode cX12_product 36 = .ok (.invokevirtual 348, 3) := by decide +kernel
theorem dX12_product_39 : decode cX12_product 39 = .ok (.aload_n 0, 1) := by decide +kernel
theorem dX12_product_40 : decode cX12_product 40 = .ok (.iconst 2, 1) := by decide +kernel
theorem dX12_product_41 : decode cX12_product 41 = .ok (.iload_n 1, 1) := by decide +kernel
theorem dX12_product_42 : decode cX12_product 42 = .ok (.invokevirtual 336, 3) := by decide +kernel
theorem dX12_product_45 : decode cX12_product 45 = .ok (.goto (-41), 3) := by decide +kernel
theorem dX12_product_48 : decode cX12_product 48 = .ok (.return_, 1) := by decide +kernel
theorem dX12_primary_0 : decode cX12_primary 0 = .ok (.aload_n 0, 1) := by decide +kernel
theorem dX12_primary_1 : decode cX12_primary 1 = .ok (.getfield 247, 3) := by decide +kernel
theorem dX12_primary_4 : decode cX12_primary 4 = .ok (.ifCond .eq 4, 3) := by decide +kernel
theorem dX12_primary_7 : decode cX12_primary 7 = .ok (.return_, 1) := by decide +kernel
theorem dX12_primary_8 : decode cX12_primary 8 = .ok (.aload_n 0, 1) := by decide +kernel
theorem dX12_primary_9 : decode cX12_primary 9 = .ok (.bipush 40, 2) := by decide +kernel
theorem dX12_primary_11 : decode cX12_primary 11 = .ok (.invokevirtual 308, 3) := by decide +kernel
theorem dX12_primary_14 : decode cX12_primary 14 = .ok (.ifCond .eq 87, 3) := by decide +kernel
theorem dX12_primary_17 : decode cX12_primary 17 = .ok (.aload_n 0, 1) := by decide +kernel
theorem dX12_primary_18 : decode cX12_primary 18 = .ok (.getfield 351, 3) := by decide +kernel
theorem dX12_primary_21 : decode cX12_primary 21 = .ok (.bipush 8, 2) := by decide +kernel
theorem dX12_primary_23 : decode cX12_primary 23 = .ok (.if_icmp .ne 8, 3) := by decide +kernel
theorem dX12_primary_26 : decode cX12_primary 26 = .ok (.aload_n 0, 1) := by decide +kernel
theorem dX12_primary_27 : decode cX12_primary 27 = .ok (.iconst 2, 1) := by decide +kernel
theorem dX12_primary_28 : decode cX12_primary 28 = .ok (.invokevirtual 256, 3) := by decide +kernel
theorem dX12_primary_31 : decode cX12_primary 31 = .ok (.aload_n 0, 1) := by decide +kernel
theorem dX12_primary_32 : decode cX12_primary 32 = .ok (.getfield 247, 3) := by decide +kernel
theorem dX12_primary_35 : decode cX12_primary 35 = .ok (.ifCond .eq 4, 3) := by decide +kernel
theorem dX12_primary_38 : decode cX12_primary 38 = .ok (.return_, 1) := by decide +kernel
theorem dX12_primary_39 : decode cX12_primary 39 = .ok (.aload_n 0, 1) := by decide +kernel
theorem dX12_primary_40 : decode cX12_primary 40 = .ok (.dup, 1) := by decide +kernel
theorem dX12_primary_41 : decode cX12_primary 41 = .ok (.getfield 351, 3) := by decide +kernel
theorem dX12_primary_44 : decode cX12_primary 44 = .ok (.iconst 1, 1) := by decide +kernel
theorem dX12_primary_45 : decode cX12_primary 45 = .ok (.iadd, 1) := by decide +kernel
theorem dX12_primary_46 : decode cX12_primary 46 = .ok (.putfield 351, 3) := by decide +kernel
theorem dX12_primary_49 : decode cX12_primary 49 = .ok (.aload_n 0, 1) := by decide +kernel
theorem dX12_primary_50 : decode cX12_primary 50 = .ok (.invokevirtual 253, 3) := by decide +kernel
theorem dX12_primary_53 : decode cX12_primary 53 = .ok (.aload_n 0, 1) := by decide +kernel
theorem dX12_primary_54 : decode cX12_primary 54 = .ok (.invokevirtual 324, 3) := by decide +kernel
theorem dX12_primary_57 : decode cX12_primary 57 = .ok (.aload_n 0, 1) := by decide +kernel
theorem dX12_primary_58 : decode cX12_primary 58 = .ok (.getfield 247, 3) := by decide +kernel
theorem dX12_primary_61 : decode cX12_primary 61 = .ok (.ifCond .ne 17, 3) := by decide +kernel
theorem dX12_primary_64 : decode cX12_primary 64 = .ok (.aload_n 0, 1) := by decide +kernel
theorem dX12_primary_65 : decode cX12_primary 65 = .ok (.bipush 41, 2) := by decide +kernel
theorem dX12_primary_67 : decode cX12_primary 67 = .ok (.invokevirtual 308, 3) := by decide +kernel
theorem dX12_primary_70 : decode cX12_primary 70 = .ok (.ifCond .ne 8, 3) := by decide +kernel
theorem dX12_primary_73 : decode cX12_primary 73 = .ok (.aload_n 0, 1) := by decide +kernel
theorem dX12_primary_74 : decode cX12_primary 74 = .ok (.iconst 1, 1) := by decide +kernel
theorem dX12_primary_75 : decode cX12_primary 75 = .ok (.invokevirtual 256, 3) := by decide +kernel
theorem dX12_primary_78 : decode cX12_primary 78 = .ok (.aload_n 0, 1) := by decide +kernel
theorem dX12_primary_79 : decode cX12_primary 79 = .ok (.getfield 247, 3) := by decide +kernel
theorem dX12_primary_82 : decode cX12_primary 82 = .ok (.ifCond .eq 4, 3) := by decide +kernel
theorem dX12_primary_85 : decode cX12_primary 85 = .ok (.return_, 1) := by decide +kernel
theorem dX12_primary_86 : decode cX12_primary 86 = .ok (.aload_n 0, 1) := by decide +kernel
theorem dX12_primary_87 : decode cX12_primary 87 = .ok (.dup, 1) := by decide +kernel
theorem dX12_primary_88 : decode cX12_primary 88 = .ok (.getfield 351, 3) := by decide +kernel
theorem dX12_primary_91 : decode cX12_primary 91 = .ok (.iconst 1, 1) := by decide +kernel
theorem dX12_primary_92 : decode cX12_primary 92 = .ok (.isub, 1) := by decide +kernel
theorem dX12_primary_93 : decode cX12_primary 93 = .ok (.putfield 351, 3) := by decide +kernel
theorem dX12_primary_96 : decode cX12_primary 96 = .ok (.aload_n 0, 1) := by decide +kernel
theorem dX12_primary_97 : decode cX12_primary 97 = .ok (.invokevirtual 253, 3) := by decide +kernel
theorem dX12_primary_100 : decode cX12_primary 100 = .ok (.return_, 1) := by decide +kernel
theorem dX12_primary_101 : decode cX12_primary 101 = .ok (.aload_n 0, 1) := by decide +kernel
theorem dX12_primary_102 : decode cX12_primary 102 = .ok (.getfield 213, 3) := by decide +kernel
theorem dX12_primary_105 : decode cX12_primary 105 = .ok (.iconst 2, 1) := by decide +kernel
theorem dX12_primary_106 : decode cX12_primary 106 = .ok (.if_icmp .ne 7, 3) := by decide +kernel
theorem dX12_primary_109 : decode cX12_primary 109 = .ok (.iconst 1, 1) := by decide +kernel
theorem dX12_primary_110 : decode cX12_primary 110 = .ok (.goto 4, 3) := by decide +kernel
theorem dX12_primary_113 : decode cX12_primary 113 = .ok (.iconst 0, 1) := by decide +kernel
theorem dX12_primary_114 : decode cX12_primary 114 = .ok (.istore_n 1, 1) := by decide +kernel
theorem dX12_primary_115 : decode cX12_primary 115 = .ok (.iload_n 1, 1) := by decide +kernel
theorem dX12_primary_116 : decode cX12_primary 116 = .ok (.ifCond .eq 21, 3) := by decide +kernel
theorem dX12_primary_119 : decode cX12_primary 119 = .ok (.aload_n 0, 1) := by decide +kernel
theorem dX12_primary_120 : decode cX12_primary 120 = .ok (.getfield 223, 3) := by decide +kernel
theorem dX12_primary_123 : decode cX12_primary 123 = .ok (.sipush 9999, 3) := by decide +kernel
theorem dX12_primary_126 : decode cX12_primary 126 = .ok (.if_icmp .le 11, 3) := by decide +kernel
theorem dX12_primary_129 : decode cX12_primary 129 = .ok (.aload_n 0, 1) := by decide +kernel
theorem dX12_primary_130 : decode cX12_primary 130 = .ok (.iconst 2, 1) := by decide +kernel
theorem dX12_primary_131 : decode cX12_primary 131 = .ok (.invokevirtual 256, 3) := by decide +kernel
theorem dX12_primary_134 : decode cX12_primary 134 = .ok (.goto 28, 3) := by decide +kernel
theorem dX12_primary_137 : decode cX12_primary 137 = .ok (.iload_n 1, 1) := by decide +kernel
theorem dX12_primary_138 : decode cX12_primary 138 = .ok (.ifCond .ne 24, 3) := by decide +kernel
theorem dX12_primary_141 : decode cX12_primary 141 = .ok (.aload_n 0, 1) := by decide +kernel
theorem dX12_primary_142 : decode cX12_primary 142 = .ok (.getfield 213, 3) := by decide +kernel
theorem dX12_primary_145 : decode cX12_primary 145 = .ok (.ifCond .ne 12, 3) := by decide +kernel
theorem dX12_primary_148 : decode cX12_primary 148 = .ok (.aload_n 0, 1) := by decide +kernel
theorem dX12_primary_149 : decode cX12_primary 149 = .ok (.getfield 223, 3) := by decide +kernel
theorem dX12_primary_152 : decode cX12_primary 152 = .ok (.bipush 20, 2) := by decide +kernel
theorem dX12_primary_154 : decode cX12_primary 154 = .ok (.if_icmp .ge 8, 3) := by decide +kernel
theorem dX12_primary_157 : decode cX12_primary 157 = .ok (.aload_n 0, 1) := by decide +kernel
theorem dX12_primary_158 : decode cX12_primary 158 = .ok (.iconst 1, 1) := by decide +kernel
theorem dX12_primary_159 : decode cX12_primary 159 = .ok (.invokevirtual 256, 3) := by decide +kernel
theorem dX12_primary_162 : decode cX12_primary 162 = .ok (.aload_n 0, 1) := by decide +kernel
theorem dX12_primary_163 : decode cX12_primary 163 = .ok (.invokevirtual 333, 3) := by decide +kernel
theorem dX12_primary_166 : decode cX12_primary 166 = .ok (.aload_n 0, 1) := by decide +kernel
theorem dX12_primary_167 : decode cX12_primary 167 = .ok (.iload_n 1, 1) := by decide +kernel
theorem dX12_primary_168 : decode cX12_primary 168 = .ok (.ifCond .eq 7, 3) := by decide +kernel
theorem dX12_primary_171 : decode cX12_primary 171 = .ok (.iconst 0, 1) := by decide +kernel
theorem dX12_primary_172 : decode cX12_primary 172 = .ok (.goto 4, 3) := by decide +kernel
theorem dX12_primary_175 : decode cX12_primary 175 = .ok (.iconst 1, 1) := by decide +kernel
theorem dX12_primary_176 : decode cX12_primary 176 = .ok (.iload_n 1, 1) := by decide +kernel
theorem dX12_primary_177 : decode cX12_primary 177 = .ok (.ifCond .eq 10, 3) := by decide +kernel
theorem dX12_primary_180 : decode cX12_primary 180 = .ok (.aload_n 0, 1) := by decide +kernel
theorem dX12_primary_181 : decode cX12_primary 181 = .ok (.getfield 223, 3) := by decide +kernel
theorem dX12_primary_184 : decode cX12_primary 184 = .ok (.goto 10, 3) := by decide +kernel
theorem dX12_primary_187 : decode cX12_primary 187 = .ok (.aload_n 0, 1) := by decide +kernel
theorem dX12_primary_188 : decode cX12_primary 188 = .ok (.getfield 223, 3) := by decide +kernel
theorem dX12_primary_191 : decode cX12_primary 191 = .ok (.bipush 20, 2) := by decide +kernel
theorem dX12_primary_193 : decode cX12_primary 193 = .ok (.isub, 1) := by decide +kernel
theorem dX12_primary_194 : decode cX12_primary 194 = .ok (.invokevirtual 336, 3) := by decide +kernel
theorem dX12_primary_197 : decode cX12_primary 197 = .ok (.aload_n 0, 1) := by decide +kernel
theorem dX12_primary_198 : decode cX12_primary 198 = .ok (.invokevirtual 263, 3) := by decide +kernel
theorem dX12_primary_201 : decode cX12_primary 201 = .ok (.return_, 1) := by decide +kernel
noncomputable def b_grpE_0 (rec : Rk) (h : Hp) : Option (Int × Hp) :=
  bd (rec 2 [] h) fun v1 h2 =>
  rec 1 [] h2
noncomputable def b_grpE_1 (rec : Rk) (h : Hp) : Option (Int × Hp) :=
  bd (f_X12_isWord 17 h) fun v1 h2 =>
  if v1 = 0 then (
    some (0, h2)
  ) else (
    bd (f_X12_knot h2) fun v3 h4 =>
    bd (f_X12_goOn h4) fun v5 h6 =>
    bd (rec 2 [] h6) fun v7 h8 =>
    bd (f_X12_puts 2 262 h8) fun v9 h10 =>
    rec 1 [] h10
  )
noncomputable def b_grpE_2 (rec : Rk) (h : Hp) : Option (Int × Hp) :=
  bd (rec 4 [] h) fun v1 h2 =>
  rec 3 [] h2
noncomputable def b_grpE_3 (rec : Rk) (h : Hp) : Option (Int × Hp) :=
  bd (f_X12_isWord 18 h) fun v1 h2 =>
  if v1 = 0 then (
    some (0, h2)
  ) else (
    bd (f_X12_knot h2) fun v3 h4 =>
    bd (f_X12_goOn h4) fun v5 h6 =>
    bd (rec 4 [] h6) fun v7 h8 =>
    bd (f_X12_puts 2 261 h8) fun v9 h10 =>
    rec 3 [] h10
  )
noncomputable def b_grpE_4 (rec : Rk) (h : Hp) : Option (Int × Hp) :=
  bd (f_X12_isWord 19 h) fun v1 h2 =>
  if v1 = 0 then (
    bd (rec 6 [] h2) fun v3 h4 =>
    if (gI h4 12 0 32) = 0 then (
      if (gI h4 12 0 30) = 3 then (
        if (gI h4 12 0 31) = 60 then (
          rec 5 [] h4
        ) else (
          if (gI h4 12 0 31) = 62 then (
            rec 5 [] h4
          ) else (
            if (gI h4 12 0 31) = 61 then (
              rec 5 [] h4
            ) else (
              if 256 ≤ (gI h4 12 0 31) then (
                rec 5 [] h4
              ) else (
                some (0, h4)
              )
            )
          )
        )
      ) else (
        some (0, h4)
      )
    ) else (
      some (0, h4)
    )
  ) else (
    bd (f_X12_knot h2) fun v5 h6 =>
    bd (f_X12_goOn h6) fun v7 h8 =>
    bd (rec 4 [] h8) fun v9 h10 =>
    bd (f_X12_puts 2 260 h10) fun v11 h12 =>
    some (0, h12)
  )
noncomputable def b_grpE_5 (rec : Rk) (h : Hp) : Option (Int × Hp) :=
  lt (gI h 12 0 31) fun z1 =>
  bd (f_X12_knot h) fun v2 h3 =>
  bd (f_X12_goOn h3) fun v4 h5 =>
  bd (rec 6 [] h5) fun v6 h7 =>
  bd (f_X12_puts 2 z1 h7) fun v8 h9 =>
  some (0, h9)
noncomputable def b_grpE_6 (rec : Rk) (h : Hp) : Option (Int × Hp) :=
  bd (rec 9 [] h) fun v1 h2 =>
  rec 7 [] h2
noncomputable def b_grpE_7 (rec : Rk) (h : Hp) : Option (Int × Hp) :=
  bd (f_X12_isSign 43 h) fun v1 h2 =>
  if v1 = 0 then (
    bd (f_X12_isSign 45 h2) fun v3 h4 =>
    if v3 = 0 then (
      some (0, h4)
    ) else (
      rec 8 [] h4
    )
  ) else (
    rec 8 [] h2
  )
noncomputable def b_grpE_8 (rec : Rk) (h : Hp) : Option (Int × Hp) :=
  lt (gI h 12 0 31) fun z1 =>
  bd (f_X12_knot h) fun v2 h3 =>
  bd (f_X12_goOn h3) fun v4 h5 =>
  bd (rec 9 [] h5) fun v6 h7 =>
  bd (f_X12_puts 2 z1 h7) fun v8 h9 =>
  rec 7 [] h9
noncomputable def b_grpE_9 (rec : Rk) (h : Hp) : Option (Int × Hp) :=
  bd (rec 12 [] h) fun v1 h2 =>
  rec 10 [] h2
noncomputable def b_grpE_10 (rec : Rk) (h : Hp) : Option (Int × Hp) :=
  bd (f_X12_isSign 42 h) fun v1 h2 =>
  if v1 = 0 then (
    bd (f_X12_isSign 47 h2) fun v3 h4 =>
    if v3 = 0 then (
      some (0, h4)
    ) else (
      rec 11 [] h4
    )
  ) else (
    rec 11 [] h2
  )
noncomputable def b_grpE_11 (rec : Rk) (h : Hp) : Option (Int × Hp) :=
  lt (gI h 12 0 31) fun z1 =>
  bd (f_X12_knot h) fun v2 h3 =>
  bd (f_X12_goOn h3) fun v4 h5 =>
  bd (rec 12 [] h5) fun v6 h7 =>
  bd (f_X12_puts 2 z1 h7) fun v8 h9 =>
  rec 10 [] h9
noncomputable def b_grpE_12 (rec : Rk) (h : Hp) : Option (Int × Hp) :=
  if (gI h 12 0 32) = 0 then (
    bd (f_X12_isSign 40 h) fun v1 h2 =>
    if v1 = 0 then (
      if (gI h2 12 0 30) = 2 then (
        rec 15 [1] h2
      ) else (
        rec 15 [0] h2
      )
    ) else (
      if (gI h2 12 0 36) = 8 then (
        bd (f_X12_wrong 2 h2) fun v3 h4 =>
        rec 13 [] h4
      ) else (
        rec 13 [] h2
      )
    )
  ) else (
    some (0, h)
  )
noncomputable def b_grpE_13 (rec : Rk) (h : Hp) : Option (Int × Hp) :=
  if (gI h 12 0 32) = 0 then (
    ck (-2147483648 ≤ (gI h 12 0 36) + 1 ∧ (gI h 12 0 36) + 1 < 2147483648) <|
    lt (sI h 12 0 36 ((gI h 12 0 36) + 1)) fun h1 =>
    bd (f_X12_token h1) fun v2 h3 =>
    bd (rec 0 [] h3) fun v4 h5 =>
    if (gI h5 12 0 32) = 0 then (
      bd (f_X12_isSign 41 h5) fun v6 h7 =>
      if v6 = 0 then (
        bd (f_X12_wrong 1 h7) fun v8 h9 =>
        rec 14 [] h9
      ) else (
        rec 14 [] h7
      )
    ) else (
      rec 14 [] h5
    )
  ) else (
    some (0, h)
  )
noncomputable def b_grpE_14 (rec : Rk) (h : Hp) : Option (Int × Hp) :=
  if (gI h 12 0 32) = 0 then (
    ck (-2147483648 ≤ (gI h 12 0 36) - 1 ∧ (gI h 12 0 36) - 1 < 2147483648) <|
    lt (sI h 12 0 36 ((gI h 12 0 36) - 1)) fun h1 =>
    bd (f_X12_token h1) fun v2 h3 =>
    some (0, h3)
  ) else (
    some (0, h)
  )
noncomputable def b_grpE_15 (rec : Rk) (y0 : Int) (h : Hp) : Option (Int × Hp) :=
  if y0 = 0 then (
    rec 16 [y0] h
  ) else (
    if (gI h 12 0 31) ≤ 9999 then (
      rec 16 [y0] h
    ) else (
      bd (f_X12_wrong 2 h) fun v1 h2 =>
      rec 18 [y0] h2
    )
  )
noncomputable def b_grpE_16 (rec : Rk) (x1 : Int) (h : Hp) : Option (Int × Hp) :=
  if x1 = 0 then (
    if (gI h 12 0 30) = 0 then (
      if 20 ≤ (gI h 12 0 31) then (
        rec 18 [x1] h
      ) else (
        rec 17 [x1] h
      )
    ) else (
      rec 17 [x1] h
    )
  ) else (
    rec 18 [x1] h
  )
noncomputable def b_grpE_17 (rec : Rk) (x1 : Int) (h : Hp) : Option (Int × Hp) :=
  bd (f_X12_wrong 1 h) fun v1 h2 =>
  rec 18 [x1] h2
noncomputable def b_grpE_18 (rec : Rk) (x1 : Int) (h : Hp) : Option (Int × Hp) :=
  bd (f_X12_knot h) fun v1 h2 =>
  if x1 = 0 then (
    rec 19 [x1, 1] h2
  ) else (
    rec 19 [x1, 0] h2
  )
noncomputable def b_grpE_19 (rec : Rk) (x1 y0 : Int) (h : Hp) : Option (Int × Hp) :=
  if x1 = 0 then (
    ck (-2147483648 ≤ (gI h 12 0 31) - 20 ∧ (gI h 12 0 31) - 20 < 2147483648) <|
    rec 20 [(gI h 12 0 31) - 20, y0] h
  ) else (
    rec 20 [gI h 12 0 31, y0] h
  )
noncomputable def b_grpE_20 (rec : Rk) (y0 y1 : Int) (h : Hp) : Option (Int × Hp) :=
  bd (f_X12_puts y1 y0 h) fun v1 h2 =>
  bd (f_X12_goOn h2) fun v3 h4 =>
  some (0, h4)
noncomputable def g_grpE (n : Nat) : Rk := Nat.rec (motive := fun _ => Rk) (fun _ _ _ => none) (fun _ rec k l h => if k = 0 then b_grpE_0 rec  h else if k = 1 then b_grpE_1 rec  h else if k = 2 then b_grpE_2 rec  h else if k = 3 then b_grpE_3 rec  h else if k = 4 then b_grpE_4 rec  h else if k = 5 then b_grpE_5 rec  h else if k = 6 then b_grpE_6 rec  h else if k = 7 then b_grpE_7 rec  h else if k = 8 then b_grpE_8 rec  h else if k = 9 then b_grpE_9 rec  h else if k = 10 then b_grpE_10 rec  h else if k = 11 then b_grpE_11 rec  h else if k = 12 then b_grpE_12 rec  h else if k = 13 then b_grpE_13 rec  h else if k = 14 then b_grpE_14 rec  h else if k = 15 then b_grpE_15 rec (l.getD 0 0) h else if k = 16 then b_grpE_16 rec (l.getD 0 0) h else if k = 17 then b_grpE_17 rec (l.getD 0 0) h else if k = 18 then b_grpE_18 rec (l.getD 0 0) h else if k = 19 then b_grpE_19 rec (l.getD 0 0) (l.getD 1 0) h else if k = 20 then b_grpE_20 rec (l.getD 0 0) (l.getD 1 0) h else none) n
set_option maxHeartbeats 4000000 in
set_option maxRecDepth 100000 in
theorem t_grpE_0 (E : xE) (d : Nat) (rec : Rk) (r : Int × Hp) (hr_4 : ∀ (h : Hp), Lay h → rec 1 [] h = some r → X E mX12_expression (d + 8) (0, 0) (0, 0) 4 [some (xr 12 0)] [] h (PoV r)) (hc_X12_conjunction : ∀ (h : Hp) (r : Int × Hp), Lay h → rec 2 [] h = some r → Sp mX12_conjunction (d + 7) (0, 0) [xr 12 0] h (PoV r)) (h : Hp) (hL : Lay h) (hF : b_grpE_0 rec  h = some r) : X E mX12_expression (d + 8) (0, 0) (0, 0) 0 [some (xr 12 0)] [] h (PoV r) := by
  unfold b_grpE_0 at hF
  refine x_aload_n (i := 0) (b := 1) dX12_expression_0 rfl rfl rfl ?_
  obtain ⟨v1, h2, hq, hF⟩ := bd_e hF
  refine x_callV (as := []) (rest := []) (b := 4) (hc_X12_conjunction h _ hL hq) dX12_expression_1 cw_X12_330 ⟨_, _, rfl, Nat.le_of_ble_eq_true rfl⟩ rfl rfl (Nat.le_of_ble_eq_true rfl) ⟨Nat.le_refl _, Nat.le_refl _⟩ rfl (fun rv hh hp _ => ?_)
  obtain ⟨rfl, rfl, hL⟩ := hp
  exact x_dp (ls2 := [some (xr 12 0)]) ⟨rfl, trivial⟩ (hr_4  h2 hL hF)
set_option maxHeartbeats 4000000 in
set_option maxRecDepth 100000 in
theorem t_grpE_1 (E : xE) (d : Nat) (rec : Rk) (r : Int × Hp) (hr_4 : ∀ (h : Hp), Lay h → rec 1 [] h = some r → X E mX12_expression (d + 8) (0, 0) (0, 0) 4 [some (xr 12 0)] [] h (PoV r)) (hc_X12_conjunction : ∀ (h : Hp) (r : Int × Hp), Lay h → rec 2 [] h = some r → Sp mX12_conjunction (d + 7) (0, 0) [xr 12 0] h (PoV r)) (h : Hp) (hL : Lay h) (hF : b_grpE_1 rec  h = some r) : X E mX12_expression (d + 8) (0, 0) (0, 0) 4 [some (xr 12 0)] [] h (PoV r) := by
  unfold b_grpE_1 at hF
  refine x_aload_n (i := 0) (b := 5) dX12_expression_4 rfl rfl rfl ?_
  refine x_bipush (n := 17) (b := 7) dX12_expression_5 (by decide) rfl ?_
  obtain ⟨v1, h2, hq, hF⟩ := bd_e hF
  refine x_callV (as := [xi 17]) (rest := []) (b := 10) (c_X12_isWord (d + 6) 17 h _ hL hq) dX12_expression_7 cw_X12_321 ⟨_, _, rfl, Nat.le_of_ble_eq_true rfl⟩ rfl rfl (Nat.le_of_ble_eq_true rfl) ⟨Nat.le_refl _, Nat.le_refl _⟩ rfl (fun rv hh hp _ => ?_)
  obtain ⟨rfl, rfl, hL⟩ := hp
  refine x_if_eq (tgt := 36) (b := 13) dX12_expression_10 (by decide) rfl (fun hc => ?_) (fun hc => ?_)
  · replace hF := br_T hc hF
    refine x_return dX12_expression_36 rfl ⟨Nat.le_refl _, Nat.le_refl _⟩ ?_
    cases hF
    exact ⟨rfl, rfl, hL⟩
  · replace hF := br_F hc hF
    refine x_aload_n (i := 0) (b := 14) dX12_expression_13 rfl rfl rfl ?_
    obtain ⟨v3, h4, hq, hF⟩ := bd_e hF
    refine x_callV (as := []) (rest := []) (b := 17) (c_X12_knot (d + 5) h2 _ hL hq) dX12_expression_14 cw_X12_333 ⟨_, _, rfl, Nat.le_of_ble_eq_true rfl⟩ rfl rfl (Nat.le_of_ble_eq_true rfl) ⟨Nat.le_refl _, Nat.le_refl _⟩ rfl (fun rv hh hp _ => ?_)
    obtain ⟨rfl, rfl, hL⟩ := hp
    refine x_aload_n (i := 0) (b := 18) dX12_expression_17 rfl rfl rfl ?_
    obtain ⟨v5, h6, hq, hF⟩ := bd_e hF
    refine x_callV (as := []) (rest := []) (b := 21) (c_X12_goOn d h4 _ hL hq) dX12_expression_18 cw_X12_263 ⟨_, _, rfl, Nat.le_of_ble_eq_true rfl⟩ rfl rfl (Nat.le_of_ble_eq_true rfl) ⟨Nat.le_refl _, Nat.le_refl _⟩ rfl (fun rv hh hp _ => ?_)
    obtain ⟨rfl, rfl, hL⟩ := hp
    refine x_aload_n (i := 0) (b := 22) dX12_expression_21 rfl rfl rfl ?_
    obtain ⟨v7, h8, hq, hF⟩ := bd_e hF
    refine x_callV (as := []) (rest := []) (b := 25) (hc_X12_conjunction h6 _ hL hq) dX12_expression_22 cw_X12_330 ⟨_, _, rfl, Nat.le_of_ble_eq_true rfl⟩ rfl rfl (Nat.le_of_ble_eq_true rfl) ⟨Nat.le_refl _, Nat.le_refl _⟩ rfl (fun rv hh hp _ => ?_)
    obtain ⟨rfl, rfl, hL⟩ := hp
    refine x_aload_n (i := 0) (b := 26) dX12_expression_25 rfl rfl rfl ?_
    refine x_iconst (n := 2) (b := 27) dX12_expression_26 (by decide) rfl ?_
    refine x_sipush (n := 262) (b := 30) dX12_expression_27 (by decide) rfl ?_
    obtain ⟨v9, h10, hq, hF⟩ := bd_e hF
    refine x_callV (as := [xi 2, xi 262]) (rest := []) (b := 33) (c_X12_puts (d + 5) 2 262 h8 _ hL hq) dX12_expression_30 cw_X12_336 ⟨_, _, rfl, Nat.le_of_ble_eq_true rfl⟩ rfl rfl (Nat.le_of_ble_eq_true rfl) ⟨Nat.le_refl _, Nat.le_refl _⟩ rfl (fun rv hh hp _ => ?_)
    obtain ⟨rfl, rfl, hL⟩ := hp
    refine x_goto (tgt := 4) dX12_expression_33 (by decide) ?_
    exact x_dp (ls2 := [some (xr 12 0)]) ⟨rfl, trivial⟩ (hr_4  h10 hL hF)
set_option maxHeartbeats 4000000 in
set_option maxRecDepth 100000 in
theorem t_grpE_2 (E : xE) (d : Nat) (rec : Rk) (r : Int × Hp) (hr_4 : ∀ (h : Hp), Lay h → rec 3 [] h = some r → X E mX12_conjunction (d + 8) (0, 0) (0, 0) 4 [some (xr 12 0)] [] h (PoV r)) (hc_X12_negation : ∀ (h : Hp) (r : Int × Hp), Lay h → rec 4 [] h = some r → Sp mX12_negation (d + 7) (0, 0) [xr 12 0] h (PoV r)) (h : Hp) (hL : Lay h) (hF : b_grpE_2 rec  h = some r) : X E mX12_conjunction (d + 8) (0, 0) (0, 0) 0 [some (xr 12 0)] [] h (PoV r) := by
  unfold b_grpE_2 at hF
  refine x_aload_n (i := 0) (b := 1) dX12_conjunction_0 rfl rfl rfl ?_
  obtain ⟨v1, h2, hq, hF⟩ := bd_e hF
  refine x_callV (as := []) (rest := []) (b := 4) (hc_X12_negation h _ hL hq) dX12_conjunction_1 cw_X12_339 ⟨_, _, rfl, Nat.le_of_ble_eq_true rfl⟩ rfl rfl (Nat.le_of_ble_eq_true rfl) ⟨Nat.le_refl _, Nat.le_refl _⟩ rfl (fun rv hh hp _ => ?_)
  obtain ⟨rfl, rfl, hL⟩ := hp
  exact x_dp (ls2 := [some (xr 12 0)]) ⟨rfl, trivial⟩ (hr_4  h2 hL hF)
set_option maxHeartbeats 4000000 in
set_option maxRecDepth 100000 in
theorem t_grpE_3 (E : xE) (d : Nat) (rec : Rk) (r : Int × Hp) (hr_4 : ∀ (h : Hp), Lay h → rec 3 [] h = some r → X E mX12_conjunction (d + 8) (0, 0) (0, 0) 4 [some (xr 12 0)] [] h (PoV r)) (hc_X12_negation : ∀ (h : Hp) (r : Int × Hp), Lay h → rec 4 [] h = some r → Sp mX12_negation (d + 7) (0, 0) [xr 12 0] h (PoV r)) (h : Hp) (hL : Lay h) (hF : b_grpE_3 rec  h = some r) : X E mX12_conjunction (d + 8) (0, 0) (0, 0) 4 [some (xr 12 0)] [] h (PoV r) := by
  unfold b_grpE_3 at hF
  refine x_aload_n (i := 0) (b := 5) dX12_conjunction_4 rfl rfl rfl ?_
  refine x_bipush (n := 18) (b := 7) dX12_conjunction_5 (by decide) rfl ?_
  obtain ⟨v1, h2, hq, hF⟩ := bd_e hF
  refine x_callV (as := [xi 18]) (rest := []) (b := 10) (c_X12_isWord (d + 6) 18 h _ hL hq) dX12_conjunction_7 cw_X12_321 ⟨_, _, rfl, Nat.le_of_ble_eq_true rfl⟩ rfl rfl (Nat.le_of_ble_eq_true rfl) ⟨Nat.le_refl _, Nat.le_refl _⟩ rfl (fun rv hh hp _ => ?_)
  obtain ⟨rfl, rfl, hL⟩ := hp
  refine x_if_eq (tgt := 36) (b := 13) dX12_conjunction_10 (by decide) rfl (fun hc => ?_) (fun hc => ?_)
  · replace hF := br_T hc hF
    refine x_return dX12_conjunction_36 rfl ⟨Nat.le_refl _, Nat.le_refl _⟩ ?_
    cases hF
    exact ⟨rfl, rfl, hL⟩
  · replace hF := br_F hc hF
    refine x_aload_n (i := 0) (b := 14) dX12_conjunction_13 rfl rfl rfl ?_
    obtain ⟨v3, h4, hq, hF⟩ := bd_e hF
    refine x_callV (as := []) (rest := []) (b := 17) (c_X12_knot (d + 5) h2 _ hL hq) dX12_conjunction_14 cw_X12_333 ⟨_, _, rfl, Nat.le_of_ble_eq_true rfl⟩ rfl rfl (Nat.le_of_ble_eq_true rfl) ⟨Nat.le_refl _, Nat.le_refl _⟩ rfl (fun rv hh hp _ => ?_)
    obtain ⟨rfl, rfl, hL⟩ := hp
    refine x_aload_n (i := 0) (b := 18) dX12_conjunction_17 rfl rfl rfl ?_
    obtain ⟨v5, h6, hq, hF⟩ := bd_e hF
    refine x_callV (as := []) (rest := []) (b := 21) (c_X12_goOn d h4 _ hL hq) dX12_conjunction_18 cw_X12_263 ⟨_, _, rfl, Nat.le_of_ble_eq_true rfl⟩ rfl rfl (Nat.le_of_ble_eq_true rfl) ⟨Nat.le_refl _, Nat.le_refl _⟩ rfl (fun rv hh hp _ => ?_)
    obtain ⟨rfl, rfl, hL⟩ := hp
    refine x_aload_n (i := 0) (b := 22) dX12_conjunction_21 rfl rfl rfl ?_
    obtain ⟨v7, h8, hq, hF⟩ := bd_e hF
    refine x_callV (as := []) (rest := []) (b := 25) (hc_X12_negation h6 _ hL hq) dX12_conjunction_22 cw_X12_339 ⟨_, _, rfl, Nat.le_of_ble_eq_true rfl⟩ rfl rfl (Nat.le_of_ble_eq_true rfl) ⟨Nat.le_refl _, Nat.le_refl _⟩ rfl (fun rv hh hp _ => ?_)
    obtain ⟨rfl, rfl, hL⟩ := hp
    refine x_aload_n (i := 0) (b := 26) dX12_conjunction_25 rfl rfl rfl ?_
    refine x_iconst (n := 2) (b := 27) dX12_conjunction_26 (by decide) rfl ?_
    refine x_sipush (n := 261) (b := 30) dX12_conjunction_27 (by decide) rfl ?_
    obtain ⟨v9, h10, hq, hF⟩ := bd_e hF
    refine x_callV (as := [xi 2, xi 261]) (rest := []) (b := 33) (c_X12_puts (d + 5) 2 261 h8 _ hL hq) dX12_conjunction_30 cw_X12_336 ⟨_, _, rfl, Nat.le_of_ble_eq_true rfl⟩ rfl rfl (Nat.le_of_ble_eq_true rfl) ⟨Nat.le_refl _, Nat.le_refl _⟩ rfl (fun rv hh hp _ => ?_)
    obtain ⟨rfl, rfl, hL⟩ := hp
    refine x_goto (tgt := 4) dX12_conjunction_33 (by decide) ?_
    exact x_dp (ls2 := [some (xr 12 0)]) ⟨rfl, trivial⟩ (hr_4  h10 hL hF)
set_option maxHeartbeats 4000000 in
set_option maxRecDepth 100000 in
theorem t_grpE_4 (E : xE) (d : Nat) (rec : Rk) (r : Int × Hp) (hr_87 : ∀ (h : Hp), Lay h → rec 5 [] h = some r → X E mX12_negation (d + 8) (0, 0) (0, 0) 87 [some (xr 12 0), none] [] h (PoV r)) (hc_X12_negation : ∀ (h : Hp) (r : Int × Hp), Lay h → rec 4 [] h = some r → Sp mX12_negation (d + 7) (0, 0) [xr 12 0] h (PoV r)) (hc_X12_sum : ∀ (h : Hp) (r : Int × Hp), Lay h → rec 6 [] h = some r → Sp mX12_sum (d + 7) (0, 0) [xr 12 0] h (PoV r)) (h : Hp) (hL : Lay h) (hF : b_grpE_4 rec  h = some r) : X E mX12_negation (d + 8) (0, 0) (0, 0) 0 [some (xr 12 0), none] [] h (PoV r) := by
  unfold b_grpE_4 at hF
  refine x_aload_n (i := 0) (b := 1) dX12_negation_0 rfl rfl rfl ?_
  refine x_bipush (n := 19) (b := 3) dX12_negation_1 (by decide) rfl ?_
  obtain ⟨v1, h2, hq, hF⟩ := bd_e hF
  refine x_callV (as := [xi 19]) (rest := []) (b := 6) (c_X12_isWord (d + 6) 19 h _ hL hq) dX12_negation_3 cw_X12_321 ⟨_, _, rfl, Nat.le_of_ble_eq_true rfl⟩ rfl rfl (Nat.le_of_ble_eq_true rfl) ⟨Nat.le_refl _, Nat.le_refl _⟩ rfl (fun rv hh hp _ => ?_)
  obtain ⟨rfl, rfl, hL⟩ := hp
  refine x_if_eq (tgt := 30) (b := 9) dX12_negation_6 (by decide) rfl (fun hc => ?_) (fun hc => ?_)
  · replace hF := br_T hc hF
    refine x_aload_n (i := 0) (b := 31) dX12_negation_30 rfl rfl rfl ?_
    obtain ⟨v3, h4, hq, hF⟩ := bd_e hF
    refine x_callV (as := []) (rest := []) (b := 34) (hc_X12_sum h2 _ hL hq) dX12_negation_31 cw_X12_342 ⟨_, _, rfl, Nat.le_of_ble_eq_true rfl⟩ rfl rfl (Nat.le_of_ble_eq_true rfl) ⟨Nat.le_refl _, Nat.le_refl _⟩ rfl (fun rv hh hp _ => ?_)
    obtain ⟨rfl, rfl, hL⟩ := hp
    refine x_aload_n (i := 0) (b := 35) dX12_negation_34 rfl rfl rfl ?_
    refine x_getI (v := gI h4 12 0 32) (b := 38) fk_X12_247 dX12_negation_35 (by decide) rfl rfl ?_
    refine x_if_ne (tgt := 86) (b := 41) dX12_negation_38 (by decide) rfl (fun hc => ?_) (fun hc => ?_)
    · replace hF := br_F hc hF
      refine x_return dX12_negation_86 rfl ⟨Nat.le_refl _, Nat.le_refl _⟩ ?_
      cases hF
      exact ⟨rfl, rfl, hL⟩
    · replace hF := br_T hc hF
      refine x_aload_n (i := 0) (b := 42) dX12_negation_41 rfl rfl rfl ?_
      refine x_getI (v := gI h4 12 0 30) (b := 45) fk_X12_213 dX12_negation_42 (by decide) rfl rfl ?_
      refine x_iconst (n := 3) (b := 46) dX12_negation_45 (by decide) rfl ?_
      refine x_icmp_ne (tgt := 86) (b := 49) dX12_negation_46 (by decide) rfl (fun hc => ?_) (fun hc => ?_)
      · replace hF := br_F hc hF
        refine x_return dX12_negation_86 rfl ⟨Nat.le_refl _, Nat.le_refl _⟩ ?_
        cases hF
        exact ⟨rfl, rfl, hL⟩
      · replace hF := br_T hc hF
        refine x_aload_n (i := 0) (b := 50) dX12_negation_49 rfl rfl rfl ?_
        refine x_getI (v := gI h4 12 0 31) (b := 53) fk_X12_223 dX12_negation_50 (by decide) rfl rfl ?_
        refine x_bipush (n := 60) (b := 55) dX12_negation_53 (by decide) rfl ?_
        refine x_icmp_eq (tgt := 87) (b := 58) dX12_negation_55 (by decide) rfl (fun hc => ?_) (fun hc => ?_)
        · replace hF := br_T hc hF
          exact x_dp (ls2 := [some (xr 12 0), none]) ⟨rfl, trivial⟩ (hr_87  h4 hL hF)
        · replace hF := br_F hc hF
          refine x_aload_n (i := 0) (b := 59) dX12_negation_58 rfl rfl rfl ?_
          refine x_getI (v := gI h4 12 0 31) (b := 62) fk_X12_223 dX12_negation_59 (by decide) rfl rfl ?_
          refine x_bipush (n := 62) (b := 64) dX12_negation_62 (by decide) rfl ?_
          refine x_icmp_eq (tgt := 87) (b := 67) dX12_negation_64 (by decide) rfl (fun hc => ?_) (fun hc => ?_)
          · replace hF := br_T hc hF
            exact x_dp (ls2 := [some (xr 12 0), none]) ⟨rfl, trivial⟩ (hr_87  h4 hL hF)
          · replace hF := br_F hc hF
            refine x_aload_n (i := 0) (b := 68) dX12_negation_67 rfl rfl rfl ?_
            refine x_getI (v := gI h4 12 0 31) (b := 71) fk_X12_223 dX12_negation_68 (by decide) rfl rfl ?_
            refine x_bipush (n := 61) (b := 73) dX12_negation_71 (by decide) rfl ?_
            refine x_icmp_eq (tgt := 87) (b := 76) dX12_negation_73 (by decide) rfl (fun hc => ?_) (fun hc => ?_)
            · replace hF := br_T hc hF
              exact x_dp (ls2 := [some (xr 12 0), none]) ⟨rfl, trivial⟩ (hr_87  h4 hL hF)
            · replace hF := br_F hc hF
              refine x_aload_n (i := 0) (b := 77) dX12_negation_76 rfl rfl rfl ?_
              refine x_getI (v := gI h4 12 0 31) (b := 80) fk_X12_223 dX12_negation_77 (by decide) rfl rfl ?_
              refine x_sipush (n := 256) (b := 83) dX12_negation_80 (by decide) rfl ?_
              refine x_icmp_ge (tgt := 87) (b := 86) dX12_negation_83 (by decide) rfl (fun hc => ?_) (fun hc => ?_)
              · replace hF := br_T hc hF
                exact x_dp (ls2 := [some (xr 12 0), none]) ⟨rfl, trivial⟩ (hr_87  h4 hL hF)
              · replace hF := br_F hc hF
                refine x_return dX12_negation_86 rfl ⟨Nat.le_refl _, Nat.le_refl _⟩ ?_
                cases hF
                exact ⟨rfl, rfl, hL⟩
  · replace hF := br_F hc hF
    refine x_aload_n (i := 0) (b := 10) dX12_negation_9 rfl rfl rfl ?_
    obtain ⟨v5, h6, hq, hF⟩ := bd_e hF
    refine x_callV (as := []) (rest := []) (b := 13) (c_X12_knot (d + 5) h2 _ hL hq) dX12_negation_10 cw_X12_333 ⟨_, _, rfl, Nat.le_of_ble_eq_true rfl⟩ rfl rfl (Nat.le_of_ble_eq_true rfl) ⟨Nat.le_refl _, Nat.le_refl _⟩ rfl (fun rv hh hp _ => ?_)
    obtain ⟨rfl, rfl, hL⟩ := hp
    refine x_aload_n (i := 0) (b := 14) dX12_negation_13 rfl rfl rfl ?_
    obtain ⟨v7, h8, hq, hF⟩ := bd_e hF
    refine x_callV (as := []) (rest := []) (b := 17) (c_X12_goOn d h6 _ hL hq) dX12_negation_14 cw_X12_263 ⟨_, _, rfl, Nat.le_of_ble_eq_true rfl⟩ rfl rfl (Nat.le_of_ble_eq_true rfl) ⟨Nat.le_refl _, Nat.le_refl _⟩ rfl (fun rv hh hp _ => ?_)
    obtain ⟨rfl, rfl, hL⟩ := hp
    refine x_aload_n (i := 0) (b := 18) dX12_negation_17 rfl rfl rfl ?_
    obtain ⟨v9, h10, hq, hF⟩ := bd_e hF
    refine x_callV (as := []) (rest := []) (b := 21) (hc_X12_negation h8 _ hL hq) dX12_negation_18 cw_X12_339 ⟨_, _, rfl, Nat.le_of_ble_eq_true rfl⟩ rfl rfl (Nat.le_of_ble_eq_true rfl) ⟨Nat.le_refl _, Nat.le_refl _⟩ rfl (fun rv hh hp _ => ?_)
    obtain ⟨rfl, rfl, hL⟩ := hp
    refine x_aload_n (i := 0) (b := 22) dX12_negation_21 rfl rfl rfl ?_
    refine x_iconst (n := 2) (b := 23) dX12_negation_22 (by decide) rfl ?_
    refine x_sipush (n := 260) (b := 26) dX12_negation_23 (by decide) rfl ?_
    obtain ⟨v11, h12, hq, hF⟩ := bd_e hF
    refine x_callV (as := [xi 2, xi 260]) (rest := []) (b := 29) (c_X12_puts (d + 5) 2 260 h10 _ hL hq) dX12_negation_26 cw_X12_336 ⟨_, _, rfl, Nat.le_of_ble_eq_true rfl⟩ rfl rfl (Nat.le_of_ble_eq_true rfl) ⟨Nat.le_refl _, Nat.le_refl _⟩ rfl (fun rv hh hp _ => ?_)
    obtain ⟨rfl, rfl, hL⟩ := hp
    refine x_return dX12_negation_29 rfl ⟨Nat.le_refl _, Nat.le_refl _⟩ ?_
    cases hF
    exact ⟨rfl, rfl, hL⟩
set_option maxHeartbeats 4000000 in
set_option maxRecDepth 100000 in
theorem t_grpE_5 (E : xE) (d : Nat) (rec : Rk) (r : Int × Hp) (hc_X12_sum : ∀ (h : Hp) (r : Int × Hp), Lay h → rec 6 [] h = some r → Sp mX12_sum (d + 7) (0, 0) [xr 12 0] h (PoV r)) (h : Hp) (hL : Lay h) (hF : b_grpE_5 rec  h = some r) : X E mX12_negation (d + 8) (0, 0) (0, 0) 87 [some (xr 12 0), none] [] h (PoV r) := by
  unfold b_grpE_5 at hF
  refine x_aload_n (i := 0) (b := 88) dX12_negation_87 rfl rfl rfl ?_
  refine x_getI (v := gI h 12 0 31) (b := 91) fk_X12_223 dX12_negation_88 (by decide) rfl rfl ?_
  obtain ⟨z1, e_z1, hF⟩ := lt_e hF
  refine x_eq (y := z1) e_z1 ?_
  refine x_istore_n (i := 1) (b := 92) (ls2 := [some (xr 12 0), some (xi z1)]) dX12_negation_91 rfl (Nat.le_of_ble_eq_true rfl) rfl rfl ?_
  refine x_aload_n (i := 0) (b := 93) dX12_negation_92 rfl rfl rfl ?_
  obtain ⟨v2, h3, hq, hF⟩ := bd_e hF
  refine x_callV (as := []) (rest := []) (b := 96) (c_X12_knot (d + 5) h _ hL hq) dX12_negation_93 cw_X12_333 ⟨_, _, rfl, Nat.le_of_ble_eq_true rfl⟩ rfl rfl (Nat.le_of_ble_eq_true rfl) ⟨Nat.le_refl _, Nat.le_refl _⟩ rfl (fun rv hh hp _ => ?_)
  obtain ⟨rfl, rfl, hL⟩ := hp
  refine x_aload_n (i := 0) (b := 97) dX12_negation_96 rfl rfl rfl ?_
  obtain ⟨v4, h5, hq, hF⟩ := bd_e hF
  refine x_callV (as := []) (rest := []) (b := 100) (c_X12_goOn d h3 _ hL hq) dX12_negation_97 cw_X12_263 ⟨_, _, rfl, Nat.le_of_ble_eq_true rfl⟩ rfl rfl (Nat.le_of_ble_eq_true rfl) ⟨Nat.le_refl _, Nat.le_refl _⟩ rfl (fun rv hh hp _ => ?_)
  obtain ⟨rfl, rfl, hL⟩ := hp
  refine x_aload_n (i := 0) (b := 101) dX12_negation_100 rfl rfl rfl ?_
  obtain ⟨v6, h7, hq, hF⟩ := bd_e hF
  refine x_callV (as := []) (rest := []) (b := 104) (hc_X12_sum h5 _ hL hq) dX12_negation_101 cw_X12_342 ⟨_, _, rfl, Nat.le_of_ble_eq_true rfl⟩ rfl rfl (Nat.le_of_ble_eq_true rfl) ⟨Nat.le_refl _, Nat.le_refl _⟩ rfl (fun rv hh hp _ => ?_)
  obtain ⟨rfl, rfl, hL⟩ := hp
  refine x_aload_n (i := 0) (b := 105) dX12_negation_104 rfl rfl rfl ?_
  refine x_iconst (n := 2) (b := 106) dX12_negation_105 (by decide) rfl ?_
  refine x_iload_n (i := 1) (b := 107) dX12_negation_106 rfl rfl rfl ?_
  obtain ⟨v8, h9, hq, hF⟩ := bd_e hF
  refine x_callV (as := [xi 2, xi z1]) (rest := []) (b := 110) (c_X12_puts (d + 5) 2 z1 h7 _ hL hq) dX12_negation_107 cw_X12_336 ⟨_, _, rfl, Nat.le_of_ble_eq_true rfl⟩ rfl rfl (Nat.le_of_ble_eq_true rfl) ⟨Nat.le_refl _, Nat.le_refl _⟩ rfl (fun rv hh hp _ => ?_)
  obtain ⟨rfl, rfl, hL⟩ := hp
  refine x_return dX12_negation_110 rfl ⟨Nat.le_refl _, Nat.le_refl _⟩ ?_
  cases hF
  exact ⟨rfl, rfl, hL⟩
set_option maxHeartbeats 4000000 in
set_option maxRecDepth 100000 in
theorem t_grpE_6 (E : xE) (d : Nat) (rec : Rk) (r : Int × Hp) (hr_4 : ∀ (h : Hp), Lay h → rec 7 [] h = some r → X E mX12_sum (d + 8) (0, 0) (0, 0) 4 [some (xr 12 0), none] [] h (PoV r)) (hc_X12_product : ∀ (h : Hp) (r : Int × Hp), Lay h → rec 9 [] h = some r → Sp mX12_product (d + 7) (0, 0) [xr 12 0] h (PoV r)) (h : Hp) (hL : Lay h) (hF : b_grpE_6 rec  h = some r) : X E mX12_sum (d + 8) (0, 0) (0, 0) 0 [some (xr 12 0), none] [] h (PoV r) := by
  unfold b_grpE_6 at hF
  refine x_aload_n (i := 0) (b := 1) dX12_sum_0 rfl rfl rfl ?_
  obtain ⟨v1, h2, hq, hF⟩ := bd_e hF
  refine x_callV (as := []) (rest := []) (b := 4) (hc_X12_product h _ hL hq) dX12_sum_1 cw_X12_345 ⟨_, _, rfl, Nat.le_of_ble_eq_true rfl⟩ rfl rfl (Nat.le_of_ble_eq_true rfl) ⟨Nat.le_refl _, Nat.le_refl _⟩ rfl (fun rv hh hp _ => ?_)
  obtain ⟨rfl, rfl, hL⟩ := hp
  exact x_dp (ls2 := [some (xr 12 0), none]) ⟨rfl, trivial⟩ (hr_4  h2 hL hF)
set_option maxHeartbeats 4000000 in
set_option maxRecDepth 100000 in
theorem t_grpE_7 (E : xE) (d : Nat) (rec : Rk) (r : Int × Hp) (hr_22 : ∀ (h : Hp), Lay h → rec 8 [] h = some r → X E mX12_sum (d + 8) (0, 0) (0, 0) 22 [some (xr 12 0), none] [] h (PoV r)) (h : Hp) (hL : Lay h) (hF : b_grpE_7 rec  h = some r) : X E mX12_sum (d + 8) (0, 0) (0, 0) 4 [some (xr 12 0), none] [] h (PoV r) := by
  unfold b_grpE_7 at hF
  refine x_aload_n (i := 0) (b := 5) dX12_sum_4 rfl rfl rfl ?_
  refine x_bipush (n := 43) (b := 7) dX12_sum_5 (by decide) rfl ?_
  obtain ⟨v1, h2, hq, hF⟩ := bd_e hF
  refine x_callV (as := [xi 43]) (rest := []) (b := 10) (c_X12_isSign (d + 6) 43 h _ hL hq) dX12_sum_7 cw_X12_308 ⟨_, _, rfl, Nat.le_of_ble_eq_true rfl⟩ rfl rfl (Nat.le_of_ble_eq_true rfl) ⟨Nat.le_refl _, Nat.le_refl _⟩ rfl (fun rv hh hp _ => ?_)
  obtain ⟨rfl, rfl, hL⟩ := hp
  refine x_if_ne (tgt := 22) (b := 13) dX12_sum_10 (by decide) rfl (fun hc => ?_) (fun hc => ?_)
  · replace hF := br_F hc hF
    exact x_dp (ls2 := [some (xr 12 0), none]) ⟨rfl, trivial⟩ (hr_22  h2 hL hF)
  · replace hF := br_T hc hF
    refine x_aload_n (i := 0) (b := 14) dX12_sum_13 rfl rfl rfl ?_
    refine x_bipush (n := 45) (b := 16) dX12_sum_14 (by decide) rfl ?_
    obtain ⟨v3, h4, hq, hF⟩ := bd_e hF
    refine x_callV (as := [xi 45]) (rest := []) (b := 19) (c_X12_isSign (d + 6) 45 h2 _ hL hq) dX12_sum_16 cw_X12_308 ⟨_, _, rfl, Nat.le_of_ble_eq_true rfl⟩ rfl rfl (Nat.le_of_ble_eq_true rfl) ⟨Nat.le_refl _, Nat.le_refl _⟩ rfl (fun rv hh hp _ => ?_)
    obtain ⟨rfl, rfl, hL⟩ := hp
    refine x_if_eq (tgt := 48) (b := 22) dX12_sum_19 (by decide) rfl (fun hc => ?_) (fun hc => ?_)
    · replace hF := br_T hc hF
      refine x_return dX12_sum_48 rfl ⟨Nat.le_refl _, Nat.le_refl _⟩ ?_
      cases hF
      exact ⟨rfl, rfl, hL⟩
    · replace hF := br_F hc hF
      exact x_dp (ls2 := [some (xr 12 0), none]) ⟨rfl, trivial⟩ (hr_22  h4 hL hF)
set_option maxHeartbeats 4000000 in
set_option maxRecDepth 100000 in
theorem t_grpE_8 (E : xE) (d : Nat) (rec : Rk) (r : Int × Hp) (hr_4 : ∀ (h : Hp), Lay h → rec 7 [] h = some r → X E mX12_sum (d + 8) (0, 0) (0, 0) 4 [some (xr 12 0), none] [] h (PoV r)) (hc_X12_product : ∀ (h : Hp) (r : Int × Hp), Lay h → rec 9 [] h = some r → Sp mX12_product (d + 7) (0, 0) [xr 12 0] h (PoV r)) (h : Hp) (hL : Lay h) (hF : b_grpE_8 rec  h = some r) : X E mX12_sum (d + 8) (0, 0) (0, 0) 22 [some (xr 12 0), none] [] h (PoV r) := by
  unfold b_grpE_8 at hF
  refine x_aload_n (i := 0) (b := 23) dX12_sum_22 rfl rfl rfl ?_
  refine x_getI (v := gI h 12 0 31) (b := 26) fk_X12_223 dX12_sum_23 (by decide) rfl rfl ?_
  obtain ⟨z1, e_z1, hF⟩ := lt_e hF
  refine x_eq (y := z1) e_z1 ?_
  refine x_istore_n (i := 1) (b := 27) (ls2 := [some (xr 12 0), some (xi z1)]) dX12_sum_26 rfl (Nat.le_of_ble_eq_true rfl) rfl rfl ?_
  refine x_aload_n (i := 0) (b := 28) dX12_sum_27 rfl rfl rfl ?_
  obtain ⟨v2, h3, hq, hF⟩ := bd_e hF
  refine x_callV (as := []) (rest := []) (b := 31) (c_X12_knot (d + 5) h _ hL hq) dX12_sum_28 cw_X12_333 ⟨_, _, rfl, Nat.le_of_ble_eq_true rfl⟩ rfl rfl (Nat.le_of_ble_eq_true rfl) ⟨Nat.le_refl _, Nat.le_refl _⟩ rfl (fun rv hh hp _ => ?_)
  obtain ⟨rfl, rfl, hL⟩ := hp
  refine x_aload_n (i := 0) (b := 32) dX12_sum_31 rfl rfl rfl ?_
  obtain ⟨v4, h5, hq, hF⟩ := bd_e hF
  refine x_callV (as := []) (rest := []) (b := 35) (c_X12_goOn d h3 _ hL hq) dX12_sum_32 cw_X12_263 ⟨_, _, rfl, Nat.le_of_ble_eq_true rfl⟩ rfl rfl (Nat.le_of_ble_eq_true rfl) ⟨Nat.le_refl _, Nat.le_refl _⟩ rfl (fun rv hh hp _ => ?_)
  obtain ⟨rfl, rfl, hL⟩ := hp
  refine x_aload_n (i := 0) (b := 36) dX12_sum_35 rfl rfl rfl ?_
  obtain ⟨v6, h7, hq, hF⟩ := bd_e hF
  refine x_callV (as := []) (rest := []) (b := 39) (hc_X12_product h5 _ hL hq) dX12_sum_36 cw_X12_345 ⟨_, _, rfl, Nat.le_of_ble_eq_true rfl⟩ rfl rfl (Nat.le_of_ble_eq_true rfl) ⟨Nat.le_refl _, Nat.le_refl _⟩ rfl (fun rv hh hp _ => ?_)
  obtain ⟨rfl, rfl, hL⟩ := hp
  refine x_aload_n (i := 0) (b := 40) dX12_sum_39 rfl rfl rfl ?_
  refine x_iconst (n := 2) (b := 41) dX12_sum_40 (by decide) rfl ?_
  refine x_iload_n (i := 1) (b := 42) dX12_sum_41 rfl rfl rfl ?_
  obtain ⟨v8, h9, hq, hF⟩ := bd_e hF
  refine x_callV (as := [xi 2, xi z1]) (rest := []) (b := 45) (c_X12_puts (d + 5) 2 z1 h7 _ hL hq) dX12_sum_42 cw_X12_336 ⟨_, _, rfl, Nat.le_of_ble_eq_true rfl⟩ rfl rfl (Nat.le_of_ble_eq_true rfl) ⟨Nat.le_refl _, Nat.le_refl _⟩ rfl (fun rv hh hp _ => ?_)
  obtain ⟨rfl, rfl, hL⟩ := hp
  refine x_goto (tgt := 4) dX12_sum_45 (by decide) ?_
  exact x_dp (ls2 := [some (xr 12 0), none]) ⟨rfl, trivial⟩ (hr_4  h9 hL hF)
set_option maxHeartbeats 4000000 in
set_option maxRecDepth 100000 in
theorem t_grpE_9 (E : xE) (d : Nat) (rec : Rk) (r : Int × Hp) (hr_4 : ∀ (h : Hp), Lay h → rec 10 [] h = some r → X E mX12_product (d + 8) (0, 0) (0, 0) 4 [some (xr 12 0), none] [] h (PoV r)) (hc_X12_primary : ∀ (h : Hp) (r : Int × Hp), Lay h → rec 12 [] h = some r → Sp mX12_primary (d + 7) (0, 0) [xr 12 0] h (PoV r)) (h : Hp) (hL : Lay h) (hF : b_grpE_9 rec  h = some r) : X E mX12_product (d + 8) (0, 0) (0, 0) 0 [some (xr 12 0), none] [] h (PoV r) := by
  unfold b_grpE_9 at hF
  refine x_aload_n (i := 0) (b := 1) dX12_product_0 rfl rfl rfl ?_
  obtain ⟨v1, h2, hq, hF⟩ := bd_e hF
  refine x_callV (as := []) (rest := []) (b := 4) (hc_X12_primary h _ hL hq) dX12_product_1 cw_X12_348 ⟨_, _, rfl, Nat.le_of_ble_eq_true rfl⟩ rfl rfl (Nat.le_of_ble_eq_true rfl) ⟨Nat.le_refl _, Nat.le_refl _⟩ rfl (fun rv hh hp _ => ?_)
  obtain ⟨rfl, rfl, hL⟩ := hp
  exact x_dp (ls2 := [some (xr 12 0), none]) ⟨rfl, trivial⟩ (hr_4  h2 hL hF)
set_option maxHeartbeats 4000000 in
set_option maxRecDepth 100000 in
theorem t_grpE_10 (E : xE) (d : Nat) (rec : Rk) (r : Int × Hp) (hr_22 : ∀ (h : Hp), Lay h → rec 11 [] h = some r → X E mX12_product (d + 8) (0, 0) (0, 0) 22 [some (xr 12 0), none] [] h (PoV r)) (h : Hp) (hL : Lay h) (hF : b_grpE_10 rec  h = some r) : X E mX12_product (d + 8) (0, 0) (0, 0) 4 [some (xr 12 0), none] [] h (PoV r) := by
  unfold b_grpE_10 at hF
  refine x_aload_n (i := 0) (b := 5) dX12_product_4 rfl rfl rfl ?_
  refine x_bipush (n := 42) (b := 7) dX12_product_5 (by decide) rfl ?_
  obtain ⟨v1, h2, hq, hF⟩ := bd_e hF
  refine x_callV (as := [xi 42]) (rest := []) (b := 10) (c_X12_isSign (d + 6) 42 h _ hL hq) dX12_product_7 cw_X12_308 ⟨_, _, rfl, Nat.le_of_ble_eq_true rfl⟩ rfl rfl (Nat.le_of_ble_eq_true rfl) ⟨Nat.le_refl _, Nat.le_refl _⟩ rfl (fun rv hh hp _ => ?_)
  obtain ⟨rfl, rfl, hL⟩ := hp
  refine x_if_ne (tgt := 22) (b := 13) dX12_product_10 (by decide) rfl (fun hc => ?_) (fun hc => ?_)
  · replace hF := br_F hc hF
    exact x_dp (ls2 := [some (xr 12 0), none]) ⟨rfl, trivial⟩ (hr_22  h2 hL hF)
  · replace hF := br_T hc hF
    refine x_aload_n (i := 0) (b := 14) dX12_product_13 rfl rfl rfl ?_
    refine x_bipush (n := 47) (b := 16) dX12_product_14 (by decide) rfl ?_
    obtain ⟨v3, h4, hq, hF⟩ := bd_e hF
    refine x_callV (as := [xi 47]) (rest := []) (b := 19) (c_X12_isSign (d + 6) 47 h2 _ hL hq) dX12_product_16 cw_X12_308 ⟨_, _, rfl, Nat.le_of_ble_eq_true rfl⟩ rfl rfl (Nat.le_of_ble_eq_true rfl) ⟨Nat.le_refl _, Nat.le_refl _⟩ rfl (fun rv hh hp _ => ?_)
    obtain ⟨rfl, rfl, hL⟩ := hp
    refine x_if_eq (tgt := 48) (b := 22) dX12_product_19 (by decide) rfl (fun hc => ?_) (fun hc => ?_)
    · replace hF := br_T hc hF
      refine x_return dX12_product_48 rfl ⟨Nat.le_refl _, Nat.le_refl _⟩ ?_
      cases hF
      exact ⟨rfl, rfl, hL⟩
    · replace hF := br_F hc hF
      exact x_dp (ls2 := [some (xr 12 0), none]) ⟨rfl, trivial⟩ (hr_22  h4 hL hF)
set_option maxHeartbeats 4000000 in
set_option maxRecDepth 100000 in
theorem t_grpE_11 (E : xE) (d : Nat) (rec : Rk) (r : Int × Hp) (hr_4 : ∀ (h : Hp), Lay h → rec 10 [] h = some r → X E mX12_product (d + 8) (0, 0) (0, 0) 4 [some (xr 12 0), none] [] h (PoV r)) (hc_X12_primary : ∀ (h : Hp) (r : Int × Hp), Lay h → rec 12 [] h = some r → Sp mX12_primary (d + 7) (0, 0) [xr 12 0] h (PoV r)) (h : Hp) (hL : Lay h) (hF : b_grpE_11 rec  h = some r) : X E mX12_product (d + 8) (0, 0) (0, 0) 22 [some (xr 12 0), none] [] h (PoV r) := by
  unfold b_grpE_11 at hF
  refine x_aload_n (i := 0) (b := 23) dX12_product_22 rfl rfl rfl ?_
  refine x_getI (v := gI h 12 0 31) (b := 26) fk_X12_223 dX12_product_23 (by decide) rfl rfl ?_
  obtain ⟨z1, e_z1, hF⟩ := lt_e hF
  refine x_eq (y := z1) e_z1 ?_
  refine x_istore_n (i := 1) (b := 27) (ls2 := [some (xr 12 0), some (xi z1)]) dX12_product_26 rfl (Nat.le_of_ble_eq_true rfl) rfl rfl ?_
  refine x_aload_n (i := 0) (b := 28) dX12_product_27 rfl rfl rfl ?_
  obtain ⟨v2, h3, hq, hF⟩ := bd_e hF
  refine x_callV (as := []) (rest := []) (b := 31) (c_X12_knot (d + 5) h _ hL hq) dX12_product_28 cw_X12_333 ⟨_, _, rfl, Nat.le_of_ble_eq_true rfl⟩ rfl rfl (Nat.le_of_ble_eq_true rfl) ⟨Nat.le_refl _, Nat.le_refl _⟩ rfl (fun rv hh hp _ => ?_)
  obtain ⟨rfl, rfl, hL⟩ := hp
  refine x_aload_n (i := 0) (b := 32) dX12_product_31 rfl rfl rfl ?_
  obtain ⟨v4, h5, hq, hF⟩ := bd_e hF
  refine x_callV (as := []) (rest := []) (b := 35) (c_X12_goOn d h3 _ hL hq) dX12_product_32 cw_X12_263 ⟨_, _, rfl, Nat.le_of_ble_eq_true rfl⟩ rfl rfl (Nat.le_of_ble_eq_true rfl) ⟨Nat.le_refl _, Nat.le_refl _⟩ rfl (fun rv hh hp _ => ?_)
  obtain ⟨rfl, rfl, hL⟩ := hp
  refine x_aload_n (i := 0) (b := 36) dX12_product_35 rfl rfl rfl ?_
  obtain ⟨v6, h7, hq, hF⟩ := bd_e hF
  refine x_callV (as := []) (rest := []) (b := 39) (hc_X12_primary h5 _ hL hq) dX12_product_36 cw_X12_348 ⟨_, _, rfl, Nat.le_of_ble_eq_true rfl⟩ rfl rfl (Nat.le_of_ble_eq_true rfl) ⟨Nat.le_refl _, Nat.le_refl _⟩ rfl (fun rv hh hp _ => ?_)
  obtain ⟨rfl, rfl, hL⟩ := hp
  refine x_aload_n (i := 0) (b := 40) dX12_product_39 rfl rfl rfl ?_
  refine x_iconst (n := 2) (b := 41) dX12_product_40 (by decide) rfl ?_
  refine x_iload_n (i := 1) (b := 42) dX12_product_41 rfl rfl rfl ?_
  obtain ⟨v8, h9, hq, hF⟩ := bd_e hF
  refine x_callV (as := [xi 2, xi z1]) (rest := []) (b := 45) (c_X12_puts (d + 5) 2 z1 h7 _ hL hq) dX12_product_42 cw_X12_336 ⟨_, _, rfl, Nat.le_of_ble_eq_true rfl⟩ rfl rfl (Nat.le_of_ble_eq_true rfl) ⟨Nat.le_refl _, Nat.le_refl _⟩ rfl (fun rv hh hp _ => ?_)
  obtain ⟨rfl, rfl, hL⟩ := hp
  refine x_goto (tgt := 4) dX12_product_45 (by decide) ?_
  exact x_dp (ls2 := [some (xr 12 0), none]) ⟨rfl, trivial⟩ (hr_4  h9 hL hF)
set_option maxHeartbeats 4000000 in
set_option maxRecDepth 100000 in
theorem t_grpE_12 (E : xE) (d : Nat) (rec : Rk) (r : Int × Hp) (hr_31 : ∀ (h : Hp), Lay h → rec 13 [] h = some r → X E mX12_primary (d + 8) (0, 0) (0, 0) 31 [some (xr 12 0), none] [] h (PoV r)) (hr_114 : ∀ (y0 : Int) (h : Hp), Lay h → rec 15 [y0] h = some r → X E mX12_primary (d + 8) (0, 0) (0, 0) 114 [some (xr 12 0), none] [xi y0] h (PoV r)) (h : Hp) (hL : Lay h) (hF : b_grpE_12 rec  h = some r) : X E mX12_primary (d + 8) (0, 0) (0, 0) 0 [some (xr 12 0), none] [] h (PoV r) := by
  unfold b_grpE_12 at hF
  refine x_aload_n (i := 0) (b := 1) dX12_primary_0 rfl rfl rfl ?_
  refine x_getI (v := gI h 12 0 32) (b := 4) fk_X12_247 dX12_primary_1 (by decide) rfl rfl ?_
  refine x_if_eq (tgt := 8) (b := 7) dX12_primary_4 (by decide) rfl (fun hc => ?_) (fun hc => ?_)
  · replace hF := br_T hc hF
    refine x_aload_n (i := 0) (b := 9) dX12_primary_8 rfl rfl rfl ?_
    refine x_bipush (n := 40) (b := 11) dX12_primary_9 (by decide) rfl ?_
    obtain ⟨v1, h2, hq, hF⟩ := bd_e hF
    refine x_callV (as := [xi 40]) (rest := []) (b := 14) (c_X12_isSign (d + 6) 40 h _ hL hq) dX12_primary_11 cw_X12_308 ⟨_, _, rfl, Nat.le_of_ble_eq_true rfl⟩ rfl rfl (Nat.le_of_ble_eq_true rfl) ⟨Nat.le_refl _, Nat.le_refl _⟩ rfl (fun rv hh hp _ => ?_)
    obtain ⟨rfl, rfl, hL⟩ := hp
    refine x_if_eq (tgt := 101) (b := 17) dX12_primary_14 (by decide) rfl (fun hc => ?_) (fun hc => ?_)
    · replace hF := br_T hc hF
      refine x_aload_n (i := 0) (b := 102) dX12_primary_101 rfl rfl rfl ?_
      refine x_getI (v := gI h2 12 0 30) (b := 105) fk_X12_213 dX12_primary_102 (by decide) rfl rfl ?_
      refine x_iconst (n := 2) (b := 106) dX12_primary_105 (by decide) rfl ?_
      refine x_icmp_ne (tgt := 113) (b := 109) dX12_primary_106 (by decide) rfl (fun hc => ?_) (fun hc => ?_)
      · replace hF := br_F hc hF
        refine x_iconst (n := 0) (b := 114) dX12_primary_113 (by decide) rfl ?_
        exact x_dp (ls2 := [some (xr 12 0), none]) ⟨rfl, trivial⟩ (hr_114 0 h2 hL hF)
      · replace hF := br_T hc hF
        refine x_iconst (n := 1) (b := 110) dX12_primary_109 (by decide) rfl ?_
        refine x_goto (tgt := 114) dX12_primary_110 (by decide) ?_
        exact x_dp (ls2 := [some (xr 12 0), none]) ⟨rfl, trivial⟩ (hr_114 1 h2 hL hF)
    · replace hF := br_F hc hF
      refine x_aload_n (i := 0) (b := 18) dX12_primary_17 rfl rfl rfl ?_
      refine x_getI (v := gI h2 12 0 36) (b := 21) fk_X12_351 dX12_primary_18 (by decide) rfl rfl ?_
      refine x_bipush (n := 8) (b := 23) dX12_primary_21 (by decide) rfl ?_
      refine x_icmp_ne (tgt := 31) (b := 26) dX12_primary_23 (by decide) rfl (fun hc => ?_) (fun hc => ?_)
      · replace hF := br_F hc hF
        exact x_dp (ls2 := [some (xr 12 0), none]) ⟨rfl, trivial⟩ (hr_31  h2 hL hF)
      · replace hF := br_T hc hF
        refine x_aload_n (i := 0) (b := 27) dX12_primary_26 rfl rfl rfl ?_
        refine x_iconst (n := 2) (b := 28) dX12_primary_27 (by decide) rfl ?_
        obtain ⟨v3, h4, hq, hF⟩ := bd_e hF
        refine x_callV (as := [xi 2]) (rest := []) (b := 31) (c_X12_wrong (d + 6) 2 h2 _ hL hq) dX12_primary_28 cw_X12_256 ⟨_, _, rfl, Nat.le_of_ble_eq_true rfl⟩ rfl rfl (Nat.le_of_ble_eq_true rfl) ⟨Nat.le_refl _, Nat.le_refl _⟩ rfl (fun rv hh hp _ => ?_)
        obtain ⟨rfl, rfl, hL⟩ := hp
        exact x_dp (ls2 := [some (xr 12 0), none]) ⟨rfl, trivial⟩ (hr_31  h4 hL hF)
  · replace hF := br_F hc hF
    refine x_return dX12_primary_7 rfl ⟨Nat.le_refl _, Nat.le_refl _⟩ ?_
    cases hF
    exact ⟨rfl, rfl, hL⟩
set_option maxHeartbeats 4000000 in
set_option maxRecDepth 100000 in
theorem t_grpE_13 (E : xE) (d : Nat) (rec : Rk) (r : Int × Hp) (hr_78 : ∀ (h : Hp), Lay h → rec 14 [] h = some r → X E mX12_primary (d + 8) (0, 0) (0, 0) 78 [some (xr 12 0), none] [] h (PoV r)) (hc_X12_expression : ∀ (h : Hp) (r : Int × Hp), Lay h → rec 0 [] h = some r → Sp mX12_expression (d + 7) (0, 0) [xr 12 0] h (PoV r)) (h : Hp) (hL : Lay h) (hF : b_grpE_13 rec  h = some r) : X E mX12_primary (d + 8) (0, 0) (0, 0) 31 [some (xr 12 0), none] [] h (PoV r) := by
  unfold b_grpE_13 at hF
  refine x_aload_n (i := 0) (b := 32) dX12_primary_31 rfl rfl rfl ?_
  refine x_getI (v := gI h 12 0 32) (b := 35) fk_X12_247 dX12_primary_32 (by decide) rfl rfl ?_
  refine x_if_eq (tgt := 39) (b := 38) dX12_primary_35 (by decide) rfl (fun hc => ?_) (fun hc => ?_)
  · replace hF := br_T hc hF
    refine x_aload_n (i := 0) (b := 40) dX12_primary_39 rfl rfl rfl ?_
    refine x_dup (b := 41) dX12_primary_40 rfl rfl ?_
    refine x_getI (v := gI h 12 0 36) (b := 44) fk_X12_351 dX12_primary_41 (by decide) rfl rfl ?_
    refine x_iconst (n := 1) (b := 45) dX12_primary_44 (by decide) rfl ?_
    obtain ⟨hs, hF⟩ := ck_e hF
    refine x_iadd (b := 46) dX12_primary_45 hs rfl ?_
    refine x_putI (b := 49) fk_X12_351 dX12_primary_46 rfl rfl 36 rfl ?_
    obtain ⟨h1, e_h1, hF⟩ := lt_e hF
    refine x_hp (h2 := h1) e_h1 ?_
    replace hL : Lay h1 := by rw [← e_h1]; exact hL
    refine x_aload_n (i := 0) (b := 50) dX12_primary_49 rfl rfl rfl ?_
    obtain ⟨v2, h3, hq, hF⟩ := bd_e hF
    refine x_callV (as := []) (rest := []) (b := 53) (c_X12_token (d + 1) h1 _ hL hq) dX12_primary_50 cw_X12_253 ⟨_, _, rfl, Nat.le_of_ble_eq_true rfl⟩ rfl rfl (Nat.le_of_ble_eq_true rfl) ⟨Nat.le_refl _, Nat.le_refl _⟩ rfl (fun rv hh hp _ => ?_)
    obtain ⟨rfl, rfl, hL⟩ := hp
    refine x_aload_n (i := 0) (b := 54) dX12_primary_53 rfl rfl rfl ?_
    obtain ⟨v4, h5, hq, hF⟩ := bd_e hF
    refine x_callV (as := []) (rest := []) (b := 57) (hc_X12_expression h3 _ hL hq) dX12_primary_54 cw_X12_324 ⟨_, _, rfl, Nat.le_of_ble_eq_true rfl⟩ rfl rfl (Nat.le_of_ble_eq_true rfl) ⟨Nat.le_refl _, Nat.le_refl _⟩ rfl (fun rv hh hp _ => ?_)
    obtain ⟨rfl, rfl, hL⟩ := hp
    refine x_aload_n (i := 0) (b := 58) dX12_primary_57 rfl rfl rfl ?_
    refine x_getI (v := gI h5 12 0 32) (b := 61) fk_X12_247 dX12_primary_58 (by decide) rfl rfl ?_
    refine x_if_ne (tgt := 78) (b := 64) dX12_primary_61 (by decide) rfl (fun hc => ?_) (fun hc => ?_)
    · replace hF := br_F hc hF
      exact x_dp (ls2 := [some (xr 12 0), none]) ⟨rfl, trivial⟩ (hr_78  h5 hL hF)
    · replace hF := br_T hc hF
      refine x_aload_n (i := 0) (b := 65) dX12_primary_64 rfl rfl rfl ?_
      refine x_bipush (n := 41) (b := 67) dX12_primary_65 (by decide) rfl ?_
      obtain ⟨v6, h7, hq, hF⟩ := bd_e hF
      refine x_callV (as := [xi 41]) (rest := []) (b := 70) (c_X12_isSign (d + 6) 41 h5 _ hL hq) dX12_primary_67 cw_X12_308 ⟨_, _, rfl, Nat.le_of_ble_eq_true rfl⟩ rfl rfl (Nat.le_of_ble_eq_true rfl) ⟨Nat.le_refl _, Nat.le_refl _⟩ rfl (fun rv hh hp _ => ?_)
      obtain ⟨rfl, rfl, hL⟩ := hp
      refine x_if_ne (tgt := 78) (b := 73) dX12_primary_70 (by decide) rfl (fun hc => ?_) (fun hc => ?_)
      · replace hF := br_F hc hF
        exact x_dp (ls2 := [some (xr 12 0), none]) ⟨rfl, trivial⟩ (hr_78  h7 hL hF)
      · replace hF := br_T hc hF
        refine x_aload_n (i := 0) (b := 74) dX12_primary_73 rfl rfl rfl ?_
        refine x_iconst (n := 1) (b := 75) dX12_primary_74 (by decide) rfl ?_
        obtain ⟨v8, h9, hq, hF⟩ := bd_e hF
        refine x_callV (as := [xi 1]) (rest := []) (b := 78) (c_X12_wrong (d + 6) 1 h7 _ hL hq) dX12_primary_75 cw_X12_256 ⟨_, _, rfl, Nat.le_of_ble_eq_true rfl⟩ rfl rfl (Nat.le_of_ble_eq_true rfl) ⟨Nat.le_refl _, Nat.le_refl _⟩ rfl (fun rv hh hp _ => ?_)
        obtain ⟨rfl, rfl, hL⟩ := hp
        exact x_dp (ls2 := [some (xr 12 0), none]) ⟨rfl, trivial⟩ (hr_78  h9 hL hF)
  · replace hF := br_F hc hF
    refine x_return dX12_primary_38 rfl ⟨Nat.le_refl _, Nat.le_refl _⟩ ?_
    cases hF
    exact ⟨rfl, rfl, hL⟩
set_option maxHeartbeats 4000000 in
set_option maxRecDepth 100000 in
theorem t_grpE_14 (E : xE) (d : Nat) (rec : Rk) (r : Int × Hp) (h : Hp) (hL : Lay h) (hF : b_grpE_14 rec  h = some r) : X E mX12_primary (d + 8) (0, 0) (0, 0) 78 [some (xr 12 0), none] [] h (PoV r) := by
  unfold b_grpE_14 at hF
  refine x_aload_n (i := 0) (b := 79) dX12_primary_78 rfl rfl rfl ?_
  refine x_getI (v := gI h 12 0 32) (b := 82) fk_X12_247 dX12_primary_79 (by decide) rfl rfl ?_
  refine x_if_eq (tgt := 86) (b := 85) dX12_primary_82 (by decide) rfl (fun hc => ?_) (fun hc => ?_)
  · replace hF := br_T hc hF
    refine x_aload_n (i := 0) (b := 87) dX12_primary_86 rfl rfl rfl ?_
    refine x_dup (b := 88) dX12_primary_87 rfl rfl ?_
    refine x_getI (v := gI h 12 0 36) (b := 91) fk_X12_351 dX12_primary_88 (by decide) rfl rfl ?_
    refine x_iconst (n := 1) (b := 92) dX12_primary_91 (by decide) rfl ?_
    obtain ⟨hs, hF⟩ := ck_e hF
    refine x_isub (b := 93) dX12_primary_92 hs rfl ?_
    refine x_putI (b := 96) fk_X12_351 dX12_primary_93 rfl rfl 36 rfl ?_
    obtain ⟨h1, e_h1, hF⟩ := lt_e hF
    refine x_hp (h2 := h1) e_h1 ?_
    replace hL : Lay h1 := by rw [← e_h1]; exact hL
    refine x_aload_n (i := 0) (b := 97) dX12_primary_96 rfl rfl rfl ?_
    obtain ⟨v2, h3, hq, hF⟩ := bd_e hF
    refine x_callV (as := []) (rest := []) (b := 100) (c_X12_token (d + 1) h1 _ hL hq) dX12_primary_97 cw_X12_253 ⟨_, _, rfl, Nat.le_of_ble_eq_true rfl⟩ rfl rfl (Nat.le_of_ble_eq_true rfl) ⟨Nat.le_refl _, Nat.le_refl _⟩ rfl (fun rv hh hp _ => ?_)
    obtain ⟨rfl, rfl, hL⟩ := hp
    refine x_return dX12_primary_100 rfl ⟨Nat.le_refl _, Nat.le_refl _⟩ ?_
    cases hF
    exact ⟨rfl, rfl, hL⟩
  · replace hF := br_F hc hF
    refine x_return dX12_primary_85 rfl ⟨Nat.le_refl _, Nat.le_refl _⟩ ?_
    cases hF
    exact ⟨rfl, rfl, hL⟩
set_option maxHeartbeats 4000000 in
set_option maxRecDepth 100000 in
theorem t_grpE_15 (E : xE) (d : Nat) (rec : Rk) (r : Int × Hp) (hr_137 : ∀ (x1 : Int) (h : Hp), Lay h → rec 16 [x1] h = some r → X E mX12_primary (d + 8) (0, 0) (0, 0) 137 [some (xr 12 0), some (xi x1)] [] h (PoV r)) (hr_162 : ∀ (x1 : Int) (h : Hp), Lay h → rec 18 [x1] h = some r → X E mX12_primary (d + 8) (0, 0) (0, 0) 162 [some (xr 12 0), some (xi x1)] [] h (PoV r)) (y0 : Int) (h : Hp) (hL : Lay h) (hF : b_grpE_15 rec y0 h = some r) : X E mX12_primary (d + 8) (0, 0) (0, 0) 114 [some (xr 12 0), none] [xi y0] h (PoV r) := by
  unfold b_grpE_15 at hF
  refine x_istore_n (i := 1) (b := 115) (ls2 := [some (xr 12 0), some (xi y0)]) dX12_primary_114 rfl (Nat.le_of_ble_eq_true rfl) rfl rfl ?_
  refine x_iload_n (i := 1) (b := 116) dX12_primary_115 rfl rfl rfl ?_
  refine x_if_eq (tgt := 137) (b := 119) dX12_primary_116 (by decide) rfl (fun hc => ?_) (fun hc => ?_)
  · replace hF := br_T hc hF
    exact x_dp (ls2 := [some (xr 12 0), some (xi y0)]) ⟨rfl, rfl, trivial⟩ (hr_137 y0 h hL hF)
  · replace hF := br_F hc hF
    refine x_aload_n (i := 0) (b := 120) dX12_primary_119 rfl rfl rfl ?_
    refine x_getI (v := gI h 12 0 31) (b := 123) fk_X12_223 dX12_primary_120 (by decide) rfl rfl ?_
    refine x_sipush (n := 9999) (b := 126) dX12_primary_123 (by decide) rfl ?_
    refine x_icmp_le (tgt := 137) (b := 129) dX12_primary_126 (by decide) rfl (fun hc => ?_) (fun hc => ?_)
    · replace hF := br_T hc hF
      exact x_dp (ls2 := [some (xr 12 0), some (xi y0)]) ⟨rfl, rfl, trivial⟩ (hr_137 y0 h hL hF)
    · replace hF := br_F hc hF
      refine x_aload_n (i := 0) (b := 130) dX12_primary_129 rfl rfl rfl ?_
      refine x_iconst (n := 2) (b := 131) dX12_primary_130 (by decide) rfl ?_
      obtain ⟨v1, h2, hq, hF⟩ := bd_e hF
      refine x_callV (as := [xi 2]) (rest := []) (b := 134) (c_X12_wrong (d + 6) 2 h _ hL hq) dX12_primary_131 cw_X12_256 ⟨_, _, rfl, Nat.le_of_ble_eq_true rfl⟩ rfl rfl (Nat.le_of_ble_eq_true rfl) ⟨Nat.le_refl _, Nat.le_refl _⟩ rfl (fun rv hh hp _ => ?_)
      obtain ⟨rfl, rfl, hL⟩ := hp
      refine x_goto (tgt := 162) dX12_primary_134 (by decide) ?_
      exact x_dp (ls2 := [some (xr 12 0), some (xi y0)]) ⟨rfl, rfl, trivial⟩ (hr_162 y0 h2 hL hF)
set_option maxHeartbeats 4000000 in
set_option maxRecDepth 100000 in
theorem t_grpE_16 (E : xE) (d : Nat) (rec : Rk) (r : Int × Hp) (hr_157 : ∀ (x1 : Int) (h : Hp), Lay h → rec 17 [x1] h = some r → X E mX12_primary (d + 8) (0, 0) (0, 0) 157 [some (xr 12 0), some (xi x1)] [] h (PoV r)) (hr_162 : ∀ (x1 : Int) (h : Hp), Lay h → rec 18 [x1] h = some r → X E mX12_primary (d + 8) (0, 0) (0, 0) 162 [some (xr 12 0), some (xi x1)] [] h (PoV r)) (x1 : Int) (h : Hp) (hL : Lay h) (hF : b_grpE_16 rec x1 h = some r) : X E mX12_primary (d + 8) (0, 0) (0, 0) 137 [some (xr 12 0), some (xi x1)] [] h (PoV r) := by
  unfold b_grpE_16 at hF
  refine x_iload_n (i := 1) (b := 138) dX12_primary_137 rfl rfl rfl ?_
  refine x_if_ne (tgt := 162) (b := 141) dX12_primary_138 (by decide) rfl (fun hc => ?_) (fun hc => ?_)
  · replace hF := br_F hc hF
    exact x_dp (ls2 := [some (xr 12 0), some (xi x1)]) ⟨rfl, rfl, trivial⟩ (hr_162 x1 h hL hF)
  · replace hF := br_T hc hF
    refine x_aload_n (i := 0) (b := 142) dX12_primary_141 rfl rfl rfl ?_
    refine x_getI (v := gI h 12 0 30) (b := 145) fk_X12_213 dX12_primary_142 (by decide) rfl rfl ?_
    refine x_if_ne (tgt := 157) (b := 148) dX12_primary_145 (by decide) rfl (fun hc => ?_) (fun hc => ?_)
    · replace hF := br_F hc hF
      exact x_dp (ls2 := [some (xr 12 0), some (xi x1)]) ⟨rfl, rfl, trivial⟩ (hr_157 x1 h hL hF)
    · replace hF := br_T hc hF
      refine x_aload_n (i := 0) (b := 149) dX12_primary_148 rfl rfl rfl ?_
      refine x_getI (v := gI h 12 0 31) (b := 152) fk_X12_223 dX12_primary_149 (by decide) rfl rfl ?_
      refine x_bipush (n := 20) (b := 154) dX12_primary_152 (by decide) rfl ?_
      refine x_icmp_ge (tgt := 162) (b := 157) dX12_primary_154 (by decide) rfl (fun hc => ?_) (fun hc => ?_)
      · replace hF := br_T hc hF
        exact x_dp (ls2 := [some (xr 12 0), some (xi x1)]) ⟨rfl, rfl, trivial⟩ (hr_162 x1 h hL hF)
      · replace hF := br_F hc hF
        exact x_dp (ls2 := [some (xr 12 0), some (xi x1)]) ⟨rfl, rfl, trivial⟩ (hr_157 x1 h hL hF)
set_option maxHeartbeats 4000000 in
set_option maxRecDepth 100000 in
theorem t_grpE_17 (E : xE) (d : Nat) (rec : Rk) (r : Int × Hp) (hr_162 : ∀ (x1 : Int) (h : Hp), Lay h → rec 18 [x1] h = some r → X E mX12_primary (d + 8) (0, 0) (0, 0) 162 [some (xr 12 0), some (xi x1)] [] h (PoV r)) (x1 : Int) (h : Hp) (hL : Lay h) (hF : b_grpE_17 rec x1 h = some r) : X E mX12_primary (d + 8) (0, 0) (0, 0) 157 [some (xr 12 0), some (xi x1)] [] h (PoV r) := by
  unfold b_grpE_17 at hF
  refine x_aload_n (i := 0) (b := 158) dX12_primary_157 rfl rfl rfl ?_
  refine x_iconst (n := 1) (b := 159) dX12_primary_158 (by decide) rfl ?_
  obtain ⟨v1, h2, hq, hF⟩ := bd_e hF
  refine x_callV (as := [xi 1]) (rest := []) (b := 162) (c_X12_wrong (d + 6) 1 h _ hL hq) dX12_primary_159 cw_X12_256 ⟨_, _, rfl, Nat.le_of_ble_eq_true rfl⟩ rfl rfl (Nat.le_of_ble_eq_true rfl) ⟨Nat.le_refl _, Nat.le_refl _⟩ rfl (fun rv hh hp _ => ?_)
  obtain ⟨rfl, rfl, hL⟩ := hp
  exact x_dp (ls2 := [some (xr 12 0), some (xi x1)]) ⟨rfl, rfl, trivial⟩ (hr_162 x1 h2 hL hF)
set_option maxHeartbeats 4000000 in
set_option maxRecDepth 100000 in
theorem t_grpE_18 (E : xE) (d : Nat) (rec : Rk) (r : Int × Hp) (hr_176 : ∀ (x1 y0 : Int) (h : Hp), Lay h → rec 19 [x1, y0] h = some r → X E mX12_primary (d + 8) (0, 0) (0, 0) 176 [some (xr 12 0), some (xi x1)] [xi y0, xr 12 0] h (PoV r)) (x1 : Int) (h : Hp) (hL : Lay h) (hF : b_grpE_18 rec x1 h = some r) : X E mX12_primary (d + 8) (0, 0) (0, 0) 162 [some (xr 12 0), some (xi x1)] [] h (PoV r) := by
  unfold b_grpE_18 at hF
  refine x_aload_n (i := 0) (b := 163) dX12_primary_162 rfl rfl rfl ?_
  obtain ⟨v1, h2, hq, hF⟩ := bd_e hF
  refine x_callV (as := []) (rest := []) (b := 166) (c_X12_knot (d + 5) h _ hL hq) dX12_primary_163 cw_X12_333 ⟨_, _, rfl, Nat.le_of_ble_eq_true rfl⟩ rfl rfl (Nat.le_of_ble_eq_true rfl) ⟨Nat.le_refl _, Nat.le_refl _⟩ rfl (fun rv hh hp _ => ?_)
  obtain ⟨rfl, rfl, hL⟩ := hp
  refine x_aload_n (i := 0) (b := 167) dX12_primary_166 rfl rfl rfl ?_
  refine x_iload_n (i := 1) (b := 168) dX12_primary_167 rfl rfl rfl ?_
  refine x_if_eq (tgt := 175) (b := 171) dX12_primary_168 (by decide) rfl (fun hc => ?_) (fun hc => ?_)
  · replace hF := br_T hc hF
    refine x_iconst (n := 1) (b := 176) dX12_primary_175 (by decide) rfl ?_
    exact x_dp (ls2 := [some (xr 12 0), some (xi x1)]) ⟨rfl, rfl, trivial⟩ (hr_176 x1 1 h2 hL hF)
  · replace hF := br_F hc hF
    refine x_iconst (n := 0) (b := 172) dX12_primary_171 (by decide) rfl ?_
    refine x_goto (tgt := 176) dX12_primary_172 (by decide) ?_
    exact x_dp (ls2 := [some (xr 12 0), some (xi x1)]) ⟨rfl, rfl, trivial⟩ (hr_176 x1 0 h2 hL hF)
set_option maxHeartbeats 4000000 in
set_option maxRecDepth 100000 in
theorem t_grpE_19 (E : xE) (d : Nat) (rec : Rk) (r : Int × Hp) (hr_194 : ∀ (y0 y1 : Int) (h : Hp), Lay h → rec 20 [y0, y1] h = some r → X E mX12_primary (d + 8) (0, 0) (0, 0) 194 [some (xr 12 0), none] [xi y0, xi y1, xr 12 0] h (PoV r)) (x1 y0 : Int) (h : Hp) (hL : Lay h) (hF : b_grpE_19 rec x1 y0 h = some r) : X E mX12_primary (d + 8) (0, 0) (0, 0) 176 [some (xr 12 0), some (xi x1)] [xi y0, xr 12 0] h (PoV r) := by
  unfold b_grpE_19 at hF
  refine x_iload_n (i := 1) (b := 177) dX12_primary_176 rfl rfl rfl ?_
  refine x_if_eq (tgt := 187) (b := 180) dX12_primary_177 (by decide) rfl (fun hc => ?_) (fun hc => ?_)
  · replace hF := br_T hc hF
    refine x_aload_n (i := 0) (b := 188) dX12_primary_187 rfl rfl rfl ?_
    refine x_getI (v := gI h 12 0 31) (b := 191) fk_X12_223 dX12_primary_188 (by decide) rfl rfl ?_
    refine x_bipush (n := 20) (b := 193) dX12_primary_191 (by decide) rfl ?_
    obtain ⟨hs, hF⟩ := ck_e hF
    refine x_isub (b := 194) dX12_primary_193 hs rfl ?_
    exact x_dp (ls2 := [some (xr 12 0), none]) ⟨rfl, trivial⟩ (hr_194 ((gI h 12 0 31) - 20) y0 h hL hF)
  · replace hF := br_F hc hF
    refine x_aload_n (i := 0) (b := 181) dX12_primary_180 rfl rfl rfl ?_
    refine x_getI (v := gI h 12 0 31) (b := 184) fk_X12_223 dX12_primary_181 (by decide) rfl rfl ?_
    refine x_goto (tgt := 194) dX12_primary_184 (by decide) ?_
    exact x_dp (ls2 := [some (xr 12 0), none]) ⟨rfl, trivial⟩ (hr_194 (gI h 12 0 31) y0 h hL hF)
set_option maxHeartbeats 4000000 in
set_option maxRecDepth 100000 in
theorem t_grpE_20 (E : xE) (d : Nat) (rec : Rk) (r : Int × Hp) (y0 y1 : Int) (h : Hp) (hL : Lay h) (hF : b_grpE_20 rec y0 y1 h = some r) : X E mX12_primary (d + 8) (0, 0) (0, 0) 194 [some (xr 12 0), none] [xi y0, xi y1, xr 12 0] h (PoV r) := by
  unfold b_grpE_20 at hF
  obtain ⟨v1, h2, hq, hF⟩ := bd_e hF
  refine x_callV (as := [xi y1, xi y0]) (rest := []) (b := 197) (c_X12_puts (d + 5) y1 y0 h _ hL hq) dX12_primary_194 cw_X12_336 ⟨_, _, rfl, Nat.le_of_ble_eq_true rfl⟩ rfl rfl (Nat.le_of_ble_eq_true rfl) ⟨Nat.le_refl _, Nat.le_refl _⟩ rfl (fun rv hh hp _ => ?_)
  obtain ⟨rfl, rfl, hL⟩ := hp
  refine x_aload_n (i := 0) (b := 198) dX12_primary_197 rfl rfl rfl ?_
  obtain ⟨v3, h4, hq, hF⟩ := bd_e hF
  refine x_callV (as := []) (rest := []) (b := 201) (c_X12_goOn d h2 _ hL hq) dX12_primary_198 cw_X12_263 ⟨_, _, rfl, Nat.le_of_ble_eq_true rfl⟩ rfl rfl (Nat.le_of_ble_eq_true rfl) ⟨Nat.le_refl _, Nat.le_refl _⟩ rfl (fun rv hh hp _ => ?_)
  obtain ⟨rfl, rfl, hL⟩ := hp
  refine x_return dX12_primary_201 rfl ⟨Nat.le_refl _, Nat.le_refl _⟩ ?_
  cases hF
  exact ⟨rfl, rfl, hL⟩
set_option maxHeartbeats 4000000 in
set_option maxRecDepth 100000 in
theorem u_grpE : ∀ (n d : Nat), n ≤ d → (∀ (E : xE) (r : Int × Hp) (h : Hp), Lay h → g_grpE n 0 [] h = some r → X E mX12_expression (d + 7) (0, 0) (0, 0) 0 [some (xr 12 0)] [] h (PoV r)) ∧ (∀ (E : xE) (r : Int × Hp) (h : Hp), Lay h → g_grpE n 1 [] h = some r → X E mX12_expression (d + 7) (0, 0) (0, 0) 4 [some (xr 12 0)] [] h (PoV r)) ∧ (∀ (E : xE) (r : Int × Hp) (h : Hp), Lay h → g_grpE n 2 [] h = some r → X E mX12_conjunction (d + 7) (0, 0) (0, 0) 0 [some (xr 12 0)] [] h (PoV r)) ∧ (∀ (E : xE) (r : Int × Hp) (h : Hp), Lay h → g_grpE n 3 [] h = some r → X E mX12_conjunction (d + 7) (0, 0) (0, 0) 4 [some (xr 12 0)] [] h (PoV r)) ∧ (∀ (E : xE) (r : Int × Hp) (h : Hp), Lay h → g_grpE n 4 [] h = some r → X E mX12_negation (d + 7) (0, 0) (0, 0) 0 [some (xr 12 0), none] [] h (PoV r)) ∧ (∀ (E : xE) (r : Int × Hp) (h : Hp), Lay h → g_grpE n 5 [] h = some r → X E mX12_negation (d + 7) (0, 0) (0, 0) 87 [some (xr 12 0), none] [] h (PoV r)) ∧ (∀ (E : xE) (r : Int × Hp) (h : Hp), Lay h → g_grpE n 6 [] h = some r → X E mX12_sum (d + 7) (0, 0) (0, 0) 0 [some (xr 12 0), none] [] h (PoV r)) ∧ (∀ (E : xE) (r : Int × Hp) (h : Hp), Lay h → g_grpE n 7 [] h = some r → X E mX12_sum (d + 7) (0, 0) (0, 0) 4 [some (xr 12 0), none] [] h (PoV r)) ∧ (∀ (E : xE) (r : Int × Hp) (h : Hp), Lay h → g_grpE n 8 [] h = some r → X E mX12_sum (d + 7) (0, 0) (0, 0) 22 [some (xr 12 0), none] [] h (PoV r)) ∧ (∀ (E : xE) (r : Int × Hp) (h : Hp), Lay h → g_grpE n 9 [] h = some r → X E mX12_product (d + 7) (0, 0) (0, 0) 0 [some (xr 12 0), none] [] h (PoV r)) ∧ (∀ (E : xE) (r : Int × Hp) (h : Hp), Lay h → g_grpE n 10 [] h = some r → X E mX12_product (d + 7) (0, 0) (0, 0) 4 [some (xr 12 0), none] [] h (PoV r)) ∧ (∀ (E : xE) (r : Int × Hp) (h : Hp), Lay h → g_grpE n 11 [] h = some r → X E mX12_product (d + 7) (0, 0) (0, 0) 22 [some (xr 12 0), none] [] h (PoV r)) ∧ (∀ (E : xE) (r : Int × Hp) (h : Hp), Lay h → g_grpE n 12 [] h = some r → X E mX12_primary (d + 7) (0, 0) (0, 0) 0 [some (xr 12 0), none] [] h (PoV r)) ∧ (∀ (E : xE) (r : Int × Hp) (h : Hp), Lay h → g_grpE n 13 [] h = some r → X E mX12_primary (d + 7) (0, 0) (0, 0) 31 [some (xr 12 0), none] [] h (PoV r)) ∧ (∀ (E : xE) (r : Int × Hp) (h : Hp), Lay h → g_grpE n 14 [] h = some r → X E mX12_primary (d + 7) (0, 0) (0, 0) 78 [some (xr 12 0), none] [] h (PoV r)) ∧ (∀ (E : xE) (r : Int × Hp) (y0 : Int) (h : Hp), Lay h → g_grpE n 15 [y0] h = some r → X E mX12_primary (d + 7) (0, 0) (0, 0) 114 [some (xr 12 0), none] [xi y0] h (PoV r)) ∧ (∀ (E : xE) (r : Int × Hp) (x1 : Int) (h : Hp), Lay h → g_grpE n 16 [x1] h = some r → X E mX12_primary (d + 7) (0, 0) (0, 0) 137 [some (xr 12 0), some (xi x1)] [] h (PoV r)) ∧ (∀ (E : xE) (r : Int × Hp) (x1 : Int) (h : Hp), Lay h → g_grpE n 17 [x1] h = some r → X E mX12_primary (d + 7) (0, 0) (0, 0) 157 [some (xr 12 0), some (xi x1)] [] h (PoV r)) ∧ (∀ (E : xE) (r : Int × Hp) (x1 : Int) (h : Hp), Lay h → g_grpE n 18 [x1] h = some r → X E mX12_primary (d + 7) (0, 0) (0, 0) 162 [some (xr 12 0), some (xi x1)] [] h (PoV r)) ∧ (∀ (E : xE) (r : Int × Hp) (x1 y0 : Int) (h : Hp), Lay h → g_grpE n 19 [x1, y0] h = some r → X E mX12_primary (d + 7) (0, 0) (0, 0) 176 [some (xr 12 0), some (xi x1)] [xi y0, xr 12 0] h (PoV r)) ∧ (∀ (E : xE) (r : Int × Hp) (y0 y1 : Int) (h : Hp), Lay h → g_grpE n 20 [y0, y1] h = some r → X E mX12_primary (d + 7) (0, 0) (0, 0) 194 [some (xr 12 0), none] [xi y0, xi y1, xr 12 0] h (PoV r)) := by
  intro n
  induction n with
  | zero => intro d hd; exact ⟨fun _ r _ _ hF => no_e (r := r) hF, fun _ r _ _ hF => no_e (r := r) hF, fun _ r _ _ hF => no_e (r := r) hF, fun _ r _ _ hF => no_e (r := r) hF, fun _ r _ _ hF => no_e (r := r) hF, fun _ r _ _ hF => no_e (r := r) hF, fun _ r _ _ hF => no_e (r := r) hF, fun _ r _ _ hF => no_e (r := r) hF, fun _ r _ _ hF => no_e (r := r) hF, fun _ r _ _ hF => no_e (r := r) hF, fun _ r _ _ hF => no_e (r := r) hF, fun _ r _ _ hF => no_e (r := r) hF, fun _ r _ _ hF => no_e (r := r) hF, fun _ r _ _ hF => no_e (r := r) hF, fun _ r _ _ hF => no_e (r := r) hF, fun _ r _ _ _ hF => no_e (r := r) hF, fun _ r _ _ _ hF => no_e (r := r) hF, fun _ r _ _ _ hF => no_e (r := r) hF, fun _ r _ _ _ hF => no_e (r := r) hF, fun _ r _ _ _ _ hF => no_e (r := r) hF, fun _ r _ _ _ _ hF => no_e (r := r) hF⟩
  | succ n ih =>
    intro d hd
    obtain ⟨d, rfl⟩ : ∃ d2, d = d2 + 1 := ⟨d - 1, by omega⟩
    have ih0 := ih d (by omega)
    have ih1 := ih (d + 1) (by omega)
    exact ⟨fun E r h hL hF => t_grpE_0 E d (g_grpE n) r (ih1.2.1 E r) (fun h r hL hF => sp_of (by decide) rfl (Nat.le_of_ble_eq_true rfl) (ls := [some (xr 12 0)]) rfl (fun E _ => ih0.2.2.1 E r  h hL hF))  h hL hF, fun E r h hL hF => t_grpE_1 E d (g_grpE n) r (ih1.2.1 E r) (fun h r hL hF => sp_of (by decide) rfl (Nat.le_of_ble_eq_true rfl) (ls := [some (xr 12 0)]) rfl (fun E _ => ih0.2.2.1 E r  h hL hF))  h hL hF, fun E r h hL hF => t_grpE_2 E d (g_grpE n) r (ih1.2.2.2.1 E r) (fun h r hL hF => sp_of (by decide) rfl (Nat.le_of_ble_eq_true rfl) (ls := [some (xr 12 0), none]) rfl (fun E _ => ih0.2.2.2.2.1 E r  h hL hF))  h hL hF, fun E r h hL hF => t_grpE_3 E d (g_grpE n) r (ih1.2.2.2.1 E r) (fun h r hL hF => sp_of (by decide) rfl (Nat.le_of_ble_eq_true rfl) (ls := [some (xr 12 0), none]) rfl (fun E _ => ih0.2.2.2.2.1 E r  h hL hF))  h hL hF, fun E r h hL hF => t_grpE_4 E d (g_grpE n) r (ih1.2.2.2.2.2.1 E r) (fun h r hL hF => sp_of (by decide) rfl (Nat.le_of_ble_eq_true rfl) (ls := [some (xr 12 0), none]) rfl (fun E _ => ih0.2.2.2.2.1 E r  h hL hF)) (fun h r hL hF => sp_of (by decide) rfl (Nat.le_of_ble_eq_true rfl) (ls := [some (xr 12 0), none]) rfl (fun E _ => ih0.2.2.2.2.2.2.1 E r  h hL hF))  h hL hF, fun E r h hL hF => t_grpE_5 E d (g_grpE n) r  (fun h r hL hF => sp_of (by decide) rfl (Nat.le_of_ble_eq_true rfl) (ls := [some (xr 12 0), none]) rfl (fun E _ => ih0.2.2.2.2.2.2.1 E r  h hL hF))  h hL hF, fun E r h hL hF => t_grpE_6 E d (g_grpE n) r (ih1.2.2.2.2.2.2.2.1 E r) (fun h r hL hF => sp_of (by decide) rfl (Nat.le_of_ble_eq_true rfl) (ls := [some (xr 12 0), none]) rfl (fun E _ => ih0.2.2.2.2.2.2.2.2.2.1 E r  h hL hF))  h hL hF, fun E r h hL hF => t_grpE_7 E d (g_grpE n) r (ih1.2.2.2.2.2.2.2.2.1 E r)   h hL hF, fun E r h hL hF => t_grpE_8 E d (g_grpE n) r (ih1.2.2.2.2.2.2.2.1 E r) (fun h r hL hF => sp_of (by decide) rfl (Nat.le_of_ble_eq_true rfl) (ls := [some (xr 12 0), none]) rfl (fun E _ => ih0.2.2.2.2.2.2.2.2.2.1 E r  h hL hF))  h hL hF, fun E r h hL hF => t_grpE_9 E d (g_grpE n) r (ih1.2.2.2.2.2.2.2.2.2.2.1 E r) (fun h r hL hF => sp_of (by decide) rfl (Nat.le_of_ble_eq_true rfl) (ls := [some (xr 12 0), none]) rfl (fun E _ => ih0.2.2.2.2.2.2.2.2.2.2.2.2.1 E r  h hL hF))  h hL hF, fun E r h hL hF => t_grpE_10 E d (g_grpE n) r (ih1.2.2.2.2.2.2.2.2.2.2.2.1 E r)   h hL hF, fun E r h hL hF => t_grpE_11 E d (g_grpE n) r (ih1.2.2.2.2.2.2.2.2.2.2.1 E r) (fun h r hL hF => sp_of (by decide) rfl (Nat.le_of_ble_eq_true rfl) (ls := [some (xr 12 0), none]) rfl (fun E _ => ih0.2.2.2.2.2.2.2.2.2.2.2.2.1 E r  h hL hF))  h hL hF, fun E r h hL hF => t_grpE_12 E d (g_grpE n) r (ih1.2.2.2.2.2.2.2.2.2.2.2.2.2.1 E r) (ih1.2.2.2.2.2.2.2.2.2.2.2.2.2.2.2.1 E r)   h hL hF, fun E r h hL hF => t_grpE_13 E d (g_grpE n) r (ih1.2.2.2.2.2.2.2.2.2.2.2.2.2.2.1 E r) (fun h r hL hF => sp_of (by decide) rfl (Nat.le_of_ble_eq_true rfl) (ls := [some (xr 12 0)]) rfl (fun E _ => ih0.1 E r  h hL hF))  h hL hF, fun E r h hL hF => t_grpE_14 E d (g_grpE n) r    h hL hF, fun E r y0 h hL hF => t_grpE_15 E d (g_grpE n) r (ih1.2.2.2.2.2.2.2.2.2.2.2.2.2.2.2.2.1 E r) (ih1.2.2.2.2.2.2.2.2.2.2.2.2.2.2.2.2.2.2.1 E r)  y0 h hL hF, fun E r x1 h hL hF => t_grpE_16 E d (g_grpE n) r (ih1.2.2.2.2.2.2.2.2.2.2.2.2.2.2.2.2.2.1 E r) (ih1.2.2.2.2.2.2.2.2.2.2.2.2.2.2.2.2.2.2.1 E r)  x1 h hL hF, fun E r x1 h hL hF => t_grpE_17 E d (g_grpE n) r (ih1.2.2.2.2.2.2.2.2.2.2.2.2.2.2.2.2.2.2.1 E r)  x1 h hL hF, fun E r x1 h hL hF => t_grpE_18 E d (g_grpE n) r (ih1.2.2.2.2.2.2.2.2.2.2.2.2.2.2.2.2.2.2.2.1 E r)  x1 h hL hF, fun E r x1 y0 h hL hF => t_grpE_19 E d (g_grpE n) r (ih1.2.2.2.2.2.2.2.2.2.2.2.2.2.2.2.2.2.2.2.2 E r)  x1 y0 h hL hF, fun E r y0 y1 h hL hF => t_grpE_20 E d (g_grpE n) r   y0 y1 h hL hF⟩
noncomputable def f_X12_expression (h : Hp) : Option (Int × Hp) := g_grpE 1000 0 [] h
theorem c_X12_expression (d : Nat) (h : Hp) (r : Int × Hp) (hL : Lay h) (hF : f_X12_expression  h = some r) : Sp mX12_expression (d + 1007) (0, 0) [xr 12 0] h (PoV r) :=
  sp_of (by decide) rfl (Nat.le_of_ble_eq_true rfl) (ls := [some (xr 12 0)]) rfl (fun E _ => (u_grpE 1000 (d + 1000) (by omega)).1 E r  h hL hF)
noncomputable def f_X12_conjunction (h : Hp) : Option (Int × Hp) := g_grpE 1000 2 [] h
theorem c_X12_conjunction (d : Nat) (h : Hp) (r : Int × Hp) (hL : Lay h) (hF : f_X12_conjunction  h = some r) : Sp mX12_conjunction (d + 1007) (0, 0) [xr 12 0] h (PoV r) :=
  sp_of (by decide) rfl (Nat.le_of_ble_eq_true rfl) (ls := [some (xr 12 0)]) rfl (fun E _ => (u_grpE 1000 (d + 1000) (by omega)).2.2.1 E r  h hL hF)
noncomputable def f_X12_negation (h : Hp) : Option (Int × Hp) := g_grpE 1000 4 [] h
theorem c_X12_negation (d : Nat) (h : Hp) (r : Int × Hp) (hL : Lay h) (hF : f_X12_negation  h = some r) : Sp mX12_negation (d + 1007) (0, 0) [xr 12 0] h (PoV r) :=
  sp_of (by decide) rfl (Nat.le_of_ble_eq_true rfl) (ls := [some (xr 12 0), none]) rfl (fun E _ => (u_grpE 1000 (d + 1000) (by omega)).2.2.2.2.1 E r  h hL hF)
noncomputable def f_X12_sum (h : Hp) : Option (Int × Hp) := g_grpE 1000 6 [] h
theorem c_X12_sum (d : Nat) (h : Hp) (r : Int × Hp) (hL : Lay h) (hF : f_X12_sum  h = some r) : Sp mX12_sum (d + 1007) (0, 0) [xr 12 0] h (PoV r) :=
  sp_of (by decide) rfl (Nat.le_of_ble_eq_true rfl) (ls := [some (xr 12 0), none]) rfl (fun E _ => (u_grpE 1000 (d + 1000) (by omega)).2.2.2.2.2.2.1 E r  h hL hF)
noncomputable def f_X12_product (h : Hp) : Option (Int × Hp) := g_grpE 1000 9 [] h
theorem c_X12_product (d : Nat) (h : Hp) (r : Int × Hp) (hL : Lay h) (hF : f_X12_product  h = some r) : Sp mX12_product (d + 1007) (0, 0) [xr 12 0] h (PoV r) :=
  sp_of (by decide) rfl (Nat.le_of_ble_eq_true rfl) (ls := [some (xr 12 0), none]) rfl (fun E _ => (u_grpE 1000 (d + 1000) (by omega)).2.2.2.2.2.2.2.2.2.1 E r  h hL hF)
noncomputable def f_X12_primary (h : Hp) : Option (Int × Hp) := g_grpE 1000 12 [] h
theorem c_X12_primary (d : Nat) (h : Hp) (r : Int × Hp) (hL : Lay h) (hF : f_X12_primary  h = some r) : Sp mX12_primary (d + 1007) (0, 0) [xr 12 0] h (PoV r) :=
  sp_of (by decide) rfl (Nat.le_of_ble_eq_true rfl) (ls := [some (xr 12 0), none]) rfl (fun E _ => (u_grpE 1000 (d + 1000) (by omega)).2.2.2.2.2.2.2.2.2.2.2.2.1 E r  h hL hF)
theorem dX12_landLine_0 : decode cX12_landLine 0 = .ok (.aload_n 0, 1) := by decide +kernel
theorem dX12_landLine_1 : decode cX12_landLine 1 = .ok (.invokevirtual 273, 3) := by decide +kernel
theorem dX12_landLine_4 : decode cX12_landLine 4 = .ok (.istore_n 1, 1) := by decide +kernel
theorem dX12_landLine_5 : decode cX12_landLine 5 = .ok (.aload_n 0, 1) := by decide +kernel
theorem dX12_landLine_6 : decode cX12_landLine 6 = .ok (.getfield 247, 3) := by decide +kernel
theorem dX12_landLine_9 : decode cX12_landLine 9 = .ok (.ifCond .ne 20, 3) := by decide +kernel
theorem dX12_landLine_12 : decode cX12_landLine 12 = .ok (.aload_n 0, 1) := by decide +kernel
theorem dX12_landLine_13 : decode cX12_landLine 13 = .ok (.getfield 16, 3) := by decide +kernel
theorem dX12_landLine_16 : decode cX12_landLine 16 = .ok (.bipush 64, 2) := by decide +kernel
theorem dX12_landLine_18 : decode cX12_landLine 18 = .ok (.iload_n 1, 1) := by decide +kernel
theorem dX12_landLine_19 : decode cX12_landLine 19 = .ok (.iadd, 1) := by decide +kernel
theorem dX12_landLine_20 : decode cX12_landLine 20 = .ok (.baload, 1) := by decide +kernel
theorem dX12_landLine_21 : decode cX12_landLine 21 = .ok (.ifCond .eq 8, 3) := by decide +kernel
theorem dX12_landLine_24 : decode cX12_landLine 24 = .ok (.aload_n 0, 1) := by decide +kernel
theorem dX12_landLine_25 : decode cX12_landLine 25 = .ok (.iconst 3, 1) := by decide +kernel
theorem dX12_landLine_26 : decode cX12_landLine 26 = .ok (.invokevirtual 256, 3) := by decide +kernel
theorem dX12_landLine_29 : decode cX12_landLine 29 = .ok (.aload_n 0, 1) := by decide +kernel
theorem dX12_landLine_30 : decode cX12_landLine 30 = .ok (.iconst 2, 1) := by decide +kernel
theorem dX12_landLine_31 : decode cX12_landLine 31 = .ok (.invokevirtual 285, 3) := by decide +kernel
theorem dX12_landLine_34 : decode cX12_landLine 34 = .ok (.ifCond .eq 12, 3) := by decide +kernel
theorem dX12_landLine_37 : decode cX12_landLine 37 = .ok (.aload_n 0, 1) := by decide +kernel
theorem dX12_landLine_38 : decode cX12_landLine 38 = .ok (.iconst 3, 1) := by decide +kernel
theorem dX12_landLine_39 : decode cX12_landLine 39 = .ok (.invokevirtual 266, 3) := by decide +kernel
theorem dX12_landLine_42 : decode cX12_landLine 42 = .ok (.iload_n 1, 1) := by decide +kernel
theorem dX12_landLine_43 : decode cX12_landLine 43 = .ok (.if_icmp .eq 20, 3) := by decide +kernel
theorem dX12_landLine_46 : decode cX12_landLine 46 = .ok (.aload_n 0, 1) := by decide +kernel
theorem dX12_landLine_47 : decode cX12_landLine 47 = .ok (.iconst 3, 1) := by decide +kernel
theorem dX12_landLine_48 : decode cX12_landLine 48 = .ok (.invokevirtual 285, 3) := by decide +kernel
theorem dX12_landLine_51 : decode cX12_landLine 51 = .ok (.ifCond .eq 16, 3) := by decide +kernel
theorem dX12_landLine_54 : decode cX12_landLine 54 = .ok (.aload_n 0, 1) := by decide +kernel
theorem dX12_landLine_55 : decode cX12_landLine 55 = .ok (.iconst 4, 1) := by decide +kernel
theorem dX12_landLine_56 : decode cX12_landLine 56 = .ok (.invokevirtual 266, 3) := by decide +kernel
theorem dX12_landLine_59 : decode cX12_landLine 59 = .ok (.iload_n 1, 1) := by decide +kernel
theorem dX12_landLine_60 : decode cX12_landLine 60 = .ok (.if_icmp .ne 7, 3) := by decide +kernel
theorem dX12_landLine_63 : decode cX12_landLine 63 = .ok (.iconst 1, 1) := by decide +kernel
theorem dX12_landLine_64 : decode cX12_landLine 64 = .ok (.goto 4, 3) := by decide +kernel
theorem dX12_landLine_67 : decode cX12_landLine 67 = .ok (.iconst 0, 1) := by decide +kernel
theorem dX12_landLine_68 : decode cX12_landLine 68 = .ok (.istore_n 2, 1) := by decide +kernel
theorem dX12_landLine_69 : decode cX12_landLine 69 = .ok (.iconst 0, 1) := by decide +kernel
theorem dX12_landLine_70 : decode cX12_landLine 70 = .ok (.istore_n 3, 1) := by decide +kernel
theorem dX12_landLine_71 : decode cX12_landLine 71 = .ok (.iload_n 3, 1) := by decide +kernel
theorem dX12_landLine_72 : decode cX12_landLine 72 = .ok (.aload_n 0, 1) := by decide +kernel
theorem dX12_landLine_73 : decode cX12_landLine 73 = .ok (.iconst 5, 1) := by decide +kernel
theorem dX12_landLine_74 : decode cX12_landLine 74 = .ok (.invokevirtual 266, 3) := by decide +kernel
theorem dX12_landLine_77 : decode cX12_landLine 77 = .ok (.if_icmp .ge 29, 3) := by decide +kernel
theorem dX12_landLine_80 : decode cX12_landLine 80 = .ok (.iload_n 2, 1) := by decide +kernel
theorem dX12_landLine_81 : decode cX12_landLine 81 = .ok (.aload_n 0, 1) := by decide +kernel
theorem dX12_landLine_82 : decode cX12_landLine 82 = .ok (.getfield 23, 3) := by decide +kernel
theorem dX12_landLine_85 : decode cX12_landLine 85 = .ok (.iconst 3, 1) := by decide +kernel
theorem dX12_landLine_86 : decode cX12_landLine 86 = .ok (.iload_n 3, 1) := by decide +kernel
theorem dX12_landLine_87 : decode cX12_landLine 87 = .ok (.iadd, 1) := by decide +kernel
theorem dX12_landLine_88 : decode cX12_landLine 88 = .ok (.iaload, 1) := by decide +kernel
theorem dX12_landLine_89 : decode cX12_landLine 89 = .ok (.iload_n 1, 1) := by decide +kernel
theorem dX12_landLine_90 : decode cX12_landLine 90 = .ok (.if_icmp .ne 7, 3) := by decide +kernel
theorem dX12_landLine_93 : decode cX12_landLine 93 = .ok (.iconst 1, 1) := by decide +kernel
theorem dX12_landLine_94 : decode cX12_landLine 94 = .ok (.goto 4, 3) := by decide +kernel
theorem dX12_landLine_97 : decode cX12_landLine 97 = .ok (.iconst 0, 1) := by decide +kernel
theorem dX12_landLine_98 : decode cX12_landLine 98 = .ok (.ior, 1) := by decide +kernel
theorem dX12_landLine_99 : decode cX12_landLine 99 = .ok (.istore_n 2, 1) := by decide +kernel
theorem dX12_landLine_100 : decode cX12_landLine 100 = .ok (.iinc 3 1, 3) := by decide +kernel
theorem dX12_landLine_103 : decode cX12_landLine 103 = .ok (.goto (-32), 3) := by decide +kernel
theorem dX12_landLine_106 : decode cX12_landLine 106 = .ok (.aload_n 0, 1) := by decide +kernel
theorem dX12_landLine_107 : decode cX12_landLine 107 = .ok (.getfield 247, 3) := by decide +kernel
theorem dX12_landLine_110 : decode cX12_landLine 110 = .ok (.ifCond .ne 12, 3) := by decide +kernel
theorem dX12_landLine_113 : decode cX12_landLine 113 = .ok (.iload_n 2, 1) := by decide +kernel
theorem dX12_landLine_114 : decode cX12_landLine 114 = .ok (.ifCond .eq 8, 3) := by decide +kernel
theorem dX12_landLine_117 : decode cX12_landLine 117 = .ok (.aload_n 0, 1) := by decide +kernel
theorem dX12_landLine_118 : decode cX12_landLine 118 = .ok (.iconst 5, 1) := by decide +kernel
theorem dX12_landLine_119 : decode cX12_landLine 119 = .ok (.invokevirtual 256, 3) := by decide +kernel
theorem dX12_landLine_122 : decode cX12_landLine 122 = .ok (.aload_n 0, 1) := by decide +kernel
theorem dX12_landLine_123 : decode cX12_landLine 123 = .ok (.getfield 247, 3) := by decide +kernel
theorem dX12_landLine_126 : decode cX12_landLine 126 = .ok (.ifCond .eq 4, 3) := by decide +kernel
theorem dX12_landLine_129 : decode cX12_landLine 129 = .ok (.return_, 1) := by decide +kernel
theorem dX12_landLine_130 : decode cX12_landLine 130 = .ok (.aload_n 0, 1) := by decide +kernel
theorem dX12_landLine_131 : decode cX12_landLine 131 = .ok (.getfield 16, 3) := by decide +kernel
theorem dX12_landLine_134 : decode cX12_landLine 134 = .ok (.bipush 64, 2) := by decide +kernel
theorem dX12_landLine_136 : decode cX12_landLine 136 = .ok (.iload_n 1, 1) := by decide +kernel
theorem dX12_landLine_137 : decode cX12_landLine 137 = .ok (.iadd, 1) := by decide +kernel
theorem dX12_landLine_138 : decode cX12_landLine 138 = .ok (.iconst 1, 1) := by decide +kernel
theorem dX12_landLine_139 : decode cX12_landLine 139 = .ok (.bastore, 1) := by decide +kernel
theorem dX12_landLine_140 : decode cX12_landLine 140 = .ok (.aload_n 0, 1) := by decide +kernel
theorem dX12_landLine_141 : decode cX12_landLine 141 = .ok (.iconst 2, 1) := by decide +kernel
theorem dX12_landLine_142 : decode cX12_landLine 142 = .ok (.aload_n 0, 1) := by decide +kernel
theorem dX12_landLine_143 : decode cX12_landLine 143 = .ok (.iconst 2, 1) := by decide +kernel
theorem dX12_landLine_144 : decode cX12_landLine 144 = .ok (.invokevirtual 266, 3) := by decide +kernel
theorem dX12_landLine_147 : decode cX12_landLine 147 = .ok (.iconst 1, 1) := by decide +kernel
theorem dX12_landLine_148 : decode cX12_landLine 148 = .ok (.iadd, 1) := by decide +kernel
theorem dX12_landLine_149 : decode cX12_landLine 149 = .ok (.invokevirtual 288, 3) := by decide +kernel
theorem dX12_landLine_152 : decode cX12_landLine 152 = .ok (.aload_n 0, 1) := by decide +kernel
theorem dX12_landLine_153 : decode cX12_landLine 153 = .ok (.invokevirtual 253, 3) := by decide +kernel
theorem dX12_landLine_156 : decode cX12_landLine 156 = .ok (.return_, 1) := by decide +kernel
noncomputable def b_X12_landLine_0 (rec : Rk) (h : Hp) : Option (Int × Hp) :=
  bd (f_X12_cellAtHand h) fun v1 h2 =>
  if (gI h2 12 0 32) = 0 then (
    ck (-2147483648 ≤ 64 + v1 ∧ 64 + v1 < 2147483648) <|
    ck (0 ≤ (64 + v1) ∧ (64 + v1) < 128) <|
    if (gI h2 62 0 (64 + v1)) = 0 then (
      rec 1 [v1] h2
    ) else (
      bd (f_X12_wrong 3 h2) fun v3 h4 =>
      rec 1 [v1] h4
    )
  ) else (
    rec 1 [v1] h2
  )
noncomputable def b_X12_landLine_1 (rec : Rk) (x1 : Int) (h : Hp) : Option (Int × Hp) :=
  bd (f_X12_isTold 2 h) fun v1 h2 =>
  if v1 = 0 then (
    rec 2 [x1] h2
  ) else (
    bd (f_X12_fresher 3 h2) fun v3 h4 =>
    if v3 = x1 then (
      rec 3 [x1] h4
    ) else (
      rec 2 [x1] h4
    )
  )
noncomputable def b_X12_landLine_2 (rec : Rk) (x1 : Int) (h : Hp) : Option (Int × Hp) :=
  bd (f_X12_isTold 3 h) fun v1 h2 =>
  if v1 = 0 then (
    rec 4 [x1] h2
  ) else (
    bd (f_X12_fresher 4 h2) fun v3 h4 =>
    if v3 = x1 then (
      rec 3 [x1] h4
    ) else (
      rec 4 [x1] h4
    )
  )
noncomputable def b_X12_landLine_3 (rec : Rk) (x1 : Int) (h : Hp) : Option (Int × Hp) :=
  rec 5 [x1, 1] h
noncomputable def b_X12_landLine_4 (rec : Rk) (x1 : Int) (h : Hp) : Option (Int × Hp) :=
  rec 5 [x1, 0] h
noncomputable def b_X12_landLine_5 (rec : Rk) (x1 y0 : Int) (h : Hp) : Option (Int × Hp) :=
  rec 6 [x1, y0, 0] h
noncomputable def b_X12_landLine_6 (rec : Rk) (x1 x2 x3 : Int) (h : Hp) : Option (Int × Hp) :=
  bd (f_X12_fresher 5 h) fun v1 h2 =>
  if v1 ≤ x3 then (
    if (gI h2 12 0 32) = 0 then (
      if x2 = 0 then (
        rec 8 [x1] h2
      ) else (
        bd (f_X12_wrong 5 h2) fun v3 h4 =>
        rec 8 [x1] h4
      )
    ) else (
      rec 8 [x1] h2
    )
  ) else (
    ck (-2147483648 ≤ 3 + x3 ∧ 3 + x3 < 2147483648) <|
    ck (0 ≤ (3 + x3) ∧ (3 + x3) < 6) <|
    if (gI h2 64 0 (3 + x3)) = x1 then (
      rec 7 [x1, x3, 1, x2] h2
    ) else (
      rec 7 [x1, x3, 0, x2] h2
    )
  )
noncomputable def b_X12_landLine_7 (rec : Rk) (x1 x3 y0 y1 : Int) (h : Hp) : Option (Int × Hp) :=
  lt (bor y1 y0) fun z1 =>
  ck (-2147483648 ≤ x3 + 1 ∧ x3 + 1 < 2147483648) <|
  rec 6 [x1, z1, x3 + 1] h
noncomputable def b_X12_landLine_8 (rec : Rk) (x1 : Int) (h : Hp) : Option (Int × Hp) :=
  if (gI h 12 0 32) = 0 then (
    ck (-2147483648 ≤ 64 + x1 ∧ 64 + x1 < 2147483648) <|
    ck (0 ≤ (64 + x1) ∧ (64 + x1) < 128) <|
    lt (sI h 62 0 (64 + x1) 1) fun h1 =>
    bd (f_X12_fresher 2 h1) fun v2 h3 =>
    ck (-2147483648 ≤ v2 + 1 ∧ v2 + 1 < 2147483648) <|
    bd (f_X12_reads 2 (v2 + 1) h3) fun v4 h5 =>
    bd (f_X12_token h5) fun v6 h7 =>
    some (0, h7)
  ) else (
    some (0, h)
  )
noncomputable def g_X12_landLine (n : Nat) : Rk := Nat.rec (motive := fun _ => Rk) (fun _ _ _ => none) (fun _ rec k l h => if k = 0 then b_X12_landLine_0 rec  h else if k = 1 then b_X12_landLine_1 rec (l.getD 0 0) h else if k = 2 then b_X12_landLine_2 rec (l.getD 0 0) h else if k = 3 then b_X12_landLine_3 rec (l.getD 0 0) h else if k = 4 then b_X12_landLine_4 rec (l.getD 0 0) h else if k = 5 then b_X12_landLine_5 rec (l.getD 0 0) (l.getD 1 0) h else if k = 6 then b_X12_landLine_6 rec (l.getD 0 0) (l.getD 1 0) (l.getD 2 0) h else if k = 7 then b_X12_landLine_7 rec (l.getD 0 0) (l.getD 1 0) (l.getD 2 0) (l.getD 3 0) h else if k = 8 then b_X12_landLine_8 rec (l.getD 0 0) h else none) n
noncomputable def f_X12_landLine (h : Hp) : Option (Int × Hp) := g_X12_landLine FU 0 [] h
set_option maxHeartbeats 4000000 in
set_option maxRecDepth 100000 in
theorem t_X12_landLine_0 (E : xE) (d : Nat) (rec : Rk) (r : Int × Hp) (hr_29 : ∀ (x1 : Int) (h : Hp), Lay h → rec 1 [x1] h = some r → X E mX12_landLine (d + 10) (0, 0) (0, 0) 29 [some (xr 12 0), some (xi x1), none, none] [] h (PoV r)) (h : Hp) (hL : Lay h) (hF : b_X12_landLine_0 rec  h = some r) : X E mX12_landLine (d + 10) (0, 0) (0, 0) 0 [some (xr 12 0), none, none, none] [] h (PoV r) := by
  unfold b_X12_landLine_0 at hF
  refine x_aload_n (i := 0) (b := 1) dX12_landLine_0 rfl rfl rfl ?_
  obtain ⟨v1, h2, hq, hF⟩ := bd_e hF
  refine x_callV (as := []) (rest := []) (b := 4) (c_X12_cellAtHand d h _ hL hq) dX12_landLine_1 cw_X12_273 ⟨_, _, rfl, Nat.le_of_ble_eq_true rfl⟩ rfl rfl (Nat.le_of_ble_eq_true rfl) ⟨Nat.le_refl _, Nat.le_refl _⟩ rfl (fun rv hh hp _ => ?_)
  obtain ⟨rfl, rfl, hL⟩ := hp
  refine x_istore_n (i := 1) (b := 5) (ls2 := [some (xr 12 0), some (xi v1), none, none]) dX12_landLine_4 rfl (Nat.le_of_ble_eq_true rfl) rfl rfl ?_
  refine x_aload_n (i := 0) (b := 6) dX12_landLine_5 rfl rfl rfl ?_
  refine x_getI (v := gI h2 12 0 32) (b := 9) fk_X12_247 dX12_landLine_6 (by decide) rfl rfl ?_
  refine x_if_ne (tgt := 29) (b := 12) dX12_landLine_9 (by decide) rfl (fun hc => ?_) (fun hc => ?_)
  · replace hF := br_F hc hF
    exact x_dp (ls2 := [some (xr 12 0), some (xi v1), none, none]) ⟨rfl, rfl, trivial⟩ (hr_29 v1 h2 hL hF)
  · replace hF := br_T hc hF
    refine x_aload_n (i := 0) (b := 13) dX12_landLine_12 rfl rfl rfl ?_
    refine x_getL (j := 0) (t := (62, 0, true)) (b := 16) fk_X12_16 dX12_landLine_13 rfl hL rfl rfl rfl ?_
    refine x_bipush (n := 64) (b := 18) dX12_landLine_16 (by decide) rfl ?_
    refine x_iload_n (i := 1) (b := 19) dX12_landLine_18 rfl rfl rfl ?_
    obtain ⟨hs, hF⟩ := ck_e hF
    refine x_iadd (b := 20) dX12_landLine_19 hs rfl ?_
    obtain ⟨hs, hF⟩ := ck_e hF
    refine x_zald (v := gI h2 62 0 (64 + v1)) (b := 21) ak_62 dX12_landLine_20 hs rfl rfl ?_
    refine x_if_eq (tgt := 29) (b := 24) dX12_landLine_21 (by decide) rfl (fun hc => ?_) (fun hc => ?_)
    · replace hF := br_T hc hF
      exact x_dp (ls2 := [some (xr 12 0), some (xi v1), none, none]) ⟨rfl, rfl, trivial⟩ (hr_29 v1 h2 hL hF)
    · replace hF := br_F hc hF
      refine x_aload_n (i := 0) (b := 25) dX12_landLine_24 rfl rfl rfl ?_
      refine x_iconst (n := 3) (b := 26) dX12_landLine_25 (by decide) rfl ?_
      obtain ⟨v3, h4, hq, hF⟩ := bd_e hF
      refine x_callV (as := [xi 3]) (rest := []) (b := 29) (c_X12_wrong (d + 8) 3 h2 _ hL hq) dX12_landLine_26 cw_X12_256 ⟨_, _, rfl, Nat.le_of_ble_eq_true rfl⟩ rfl rfl (Nat.le_of_ble_eq_true rfl) ⟨Nat.le_refl _, Nat.le_refl _⟩ rfl (fun rv hh hp _ => ?_)
      obtain ⟨rfl, rfl, hL⟩ := hp
      exact x_dp (ls2 := [some (xr 12 0), some (xi v1), none, none]) ⟨rfl, rfl, trivial⟩ (hr_29 v1 h4 hL hF)
set_option maxHeartbeats 4000000 in
set_option maxRecDepth 100000 in
theorem t_X12_landLine_1 (E : xE) (d : Nat) (rec : Rk) (r : Int × Hp) (hr_46 : ∀ (x1 : Int) (h : Hp), Lay h → rec 2 [x1] h = some r → X E mX12_landLine (d + 10) (0, 0) (0, 0) 46 [some (xr 12 0), some (xi x1), none, none] [] h (PoV r)) (hr_63 : ∀ (x1 : Int) (h : Hp), Lay h → rec 3 [x1] h = some r → X E mX12_landLine (d + 10) (0, 0) (0, 0) 63 [some (xr 12 0), some (xi x1), none, none] [] h (PoV r)) (x1 : Int) (h : Hp) (hL : Lay h) (hF : b_X12_landLine_1 rec x1 h = some r) : X E mX12_landLine (d + 10) (0, 0) (0, 0) 29 [some (xr 12 0), some (xi x1), none, none] [] h (PoV r) := by
  unfold b_X12_landLine_1 at hF
  refine x_aload_n (i := 0) (b := 30) dX12_landLine_29 rfl rfl rfl ?_
  refine x_iconst (n := 2) (b := 31) dX12_landLine_30 (by decide) rfl ?_
  obtain ⟨v1, h2, hq, hF⟩ := bd_e hF
  refine x_callV (as := [xi 2]) (rest := []) (b := 34) (c_X12_isTold (d + 8) 2 h _ hL hq) dX12_landLine_31 cw_X12_285 ⟨_, _, rfl, Nat.le_of_ble_eq_true rfl⟩ rfl rfl (Nat.le_of_ble_eq_true rfl) ⟨Nat.le_refl _, Nat.le_refl _⟩ rfl (fun rv hh hp _ => ?_)
  obtain ⟨rfl, rfl, hL⟩ := hp
  refine x_if_eq (tgt := 46) (b := 37) dX12_landLine_34 (by decide) rfl (fun hc => ?_) (fun hc => ?_)
  · replace hF := br_T hc hF
    exact x_dp (ls2 := [some (xr 12 0), some (xi x1), none, none]) ⟨rfl, rfl, trivial⟩ (hr_46 x1 h2 hL hF)
  · replace hF := br_F hc hF
    refine x_aload_n (i := 0) (b := 38) dX12_landLine_37 rfl rfl rfl ?_
    refine x_iconst (n := 3) (b := 39) dX12_landLine_38 (by decide) rfl ?_
    obtain ⟨v3, h4, hq, hF⟩ := bd_e hF
    refine x_callV (as := [xi 3]) (rest := []) (b := 42) (c_X12_fresher (d + 8) 3 h2 _ hL hq) dX12_landLine_39 cw_X12_266 ⟨_, _, rfl, Nat.le_of_ble_eq_true rfl⟩ rfl rfl (Nat.le_of_ble_eq_true rfl) ⟨Nat.le_refl _, Nat.le_refl _⟩ rfl (fun rv hh hp _ => ?_)
    obtain ⟨rfl, rfl, hL⟩ := hp
    refine x_iload_n (i := 1) (b := 43) dX12_landLine_42 rfl rfl rfl ?_
    refine x_icmp_eq (tgt := 63) (b := 46) dX12_landLine_43 (by decide) rfl (fun hc => ?_) (fun hc => ?_)
    · replace hF := br_T hc hF
      exact x_dp (ls2 := [some (xr 12 0), some (xi x1), none, none]) ⟨rfl, rfl, trivial⟩ (hr_63 x1 h4 hL hF)
    · replace hF := br_F hc hF
      exact x_dp (ls2 := [some (xr 12 0), some (xi x1), none, none]) ⟨rfl, rfl, trivial⟩ (hr_46 x1 h4 hL hF)
set_option maxHeartbeats 4000000 in
set_option maxRecDepth 100000 in
theorem t_X12_landLine_2 (E : xE) (d : Nat) (rec : Rk) (r : Int × Hp) (hr_63 : ∀ (x1 : Int) (h : Hp), Lay h → rec 3 [x1] h = some r → X E mX12_landLine (d + 10) (0, 0) (0, 0) 63 [some (xr 12 0), some (xi x1), none, none] [] h (PoV r)) (hr_67 : ∀ (x1 : Int) (h : Hp), Lay h → rec 4 [x1] h = some r → X E mX12_landLine (d + 10) (0, 0) (0, 0) 67 [some (xr 12 0), some (xi x1), none, none] [] h (PoV r)) (x1 : Int) (h : Hp) (hL : Lay h) (hF : b_X12_landLine_2 rec x1 h = some r) : X E mX12_landLine (d + 10) (0, 0) (0, 0) 46 [some (xr 12 0), some (xi x1), none, none] [] h (PoV r) := by
  unfold b_X12_landLine_2 at hF
  refine x_aload_n (i := 0) (b := 47) dX12_landLine_46 rfl rfl rfl ?_
  refine x_iconst (n := 3) (b := 48) dX12_landLine_47 (by decide) rfl ?_
  obtain ⟨v1, h2, hq, hF⟩ := bd_e hF
  refine x_callV (as := [xi 3]) (rest := []) (b := 51) (c_X12_isTold (d + 8) 3 h _ hL hq) dX12_landLine_48 cw_X12_285 ⟨_, _, rfl, Nat.le_of_ble_eq_true rfl⟩ rfl rfl (Nat.le_of_ble_eq_true rfl) ⟨Nat.le_refl _, Nat.le_refl _⟩ rfl (fun rv hh hp _ => ?_)
  obtain ⟨rfl, rfl, hL⟩ := hp
  refine x_if_eq (tgt := 67) (b := 54) dX12_landLine_51 (by decide) rfl (fun hc => ?_) (fun hc => ?_)
  · replace hF := br_T hc hF
    exact x_dp (ls2 := [some (xr 12 0), some (xi x1), none, none]) ⟨rfl, rfl, trivial⟩ (hr_67 x1 h2 hL hF)
  · replace hF := br_F hc hF
    refine x_aload_n (i := 0) (b := 55) dX12_landLine_54 rfl rfl rfl ?_
    refine x_iconst (n := 4) (b := 56) dX12_landLine_55 (by decide) rfl ?_
    obtain ⟨v3, h4, hq, hF⟩ := bd_e hF
    refine x_callV (as := [xi 4]) (rest := []) (b := 59) (c_X12_fresher (d + 8) 4 h2 _ hL hq) dX12_landLine_56 cw_X12_266 ⟨_, _, rfl, Nat.le_of_ble_eq_true rfl⟩ rfl rfl (Nat.le_of_ble_eq_true rfl) ⟨Nat.le_refl _, Nat.le_refl _⟩ rfl (fun rv hh hp _ => ?_)
    obtain ⟨rfl, rfl, hL⟩ := hp
    refine x_iload_n (i := 1) (b := 60) dX12_landLine_59 rfl rfl rfl ?_
    refine x_icmp_ne (tgt := 67) (b := 63) dX12_landLine_60 (by decide) rfl (fun hc => ?_) (fun hc => ?_)
    · replace hF := br_F hc hF
      exact x_dp (ls2 := [some (xr 12 0), some (xi x1), none, none]) ⟨rfl, rfl, trivial⟩ (hr_67 x1 h4 hL hF)
    · replace hF := br_T hc hF
      exact x_dp (ls2 := [some (xr 12 0), some (xi x1), none, none]) ⟨rfl, rfl, trivial⟩ (hr_63 x1 h4 hL hF)
set_option maxHeartbeats 4000000 in
set_option maxRecDepth 100000 in
theorem t_X12_landLine_3 (E : xE) (d : Nat) (rec : Rk) (r : Int × Hp) (hr_68 : ∀ (x1 y0 : Int) (h : Hp), Lay h → rec 5 [x1, y0] h = some r → X E mX12_landLine (d + 10) (0, 0) (0, 0) 68 [some (xr 12 0), some (xi x1), none, none] [xi y0] h (PoV r)) (x1 : Int) (h : Hp) (hL : Lay h) (hF : b_X12_landLine_3 rec x1 h = some r) : X E mX12_landLine (d + 10) (0, 0) (0, 0) 63 [some (xr 12 0), some (xi x1), none, none] [] h (PoV r) := by
  unfold b_X12_landLine_3 at hF
  refine x_iconst (n := 1) (b := 64) dX12_landLine_63 (by decide) rfl ?_
  refine x_goto (tgt := 68) dX12_landLine_64 (by decide) ?_
  exact x_dp (ls2 := [some (xr 12 0), some (xi x1), none, none]) ⟨rfl, rfl, trivial⟩ (hr_68 x1 1 h hL hF)
set_option maxHeartbeats 4000000 in
set_option maxRecDepth 100000 in
theorem t_X12_landLine_4 (E : xE) (d : Nat) (rec : Rk) (r : Int × Hp) (hr_68 : ∀ (x1 y0 : Int) (h : Hp), Lay h → rec 5 [x1, y0] h = some r → X E mX12_landLine (d + 10) (0, 0) (0, 0) 68 [some (xr 12 0), some (xi x1), none, none] [xi y0] h (PoV r)) (x1 : Int) (h : Hp) (hL : Lay h) (hF : b_X12_landLine_4 rec x1 h = some r) : X E mX12_landLine (d + 10) (0, 0) (0, 0) 67 [some (xr 12 0), some (xi x1), none, none] [] h (PoV r) := by
  unfold b_X12_landLine_4 at hF
  refine x_iconst (n := 0) (b := 68) dX12_landLine_67 (by decide) rfl ?_
  exact x_dp (ls2 := [some (xr 12 0), some (xi x1), none, none]) ⟨rfl, rfl, trivial⟩ (hr_68 x1 0 h hL hF)
set_option maxHeartbeats 4000000 in
set_option maxRecDepth 100000 in
theorem t_X12_landLine_5 (E : xE) (d : Nat) (rec : Rk) (r : Int × Hp) (hr_71 : ∀ (x1 x2 x3 : Int) (h : Hp), Lay h → rec 6 [x1, x2, x3] h = some r → X E mX12_landLine (d + 10) (0, 0) (0, 0) 71 [some (xr 12 0), some (xi x1), some (xi x2), some (xi x3)] [] h (PoV r)) (x1 y0 : Int) (h : Hp) (hL : Lay h) (hF : b_X12_landLine_5 rec x1 y0 h = some r) : X E mX12_landLine (d + 10) (0, 0) (0, 0) 68 [some (xr 12 0), some (xi x1), none, none] [xi y0] h (PoV r) := by
  unfold b_X12_landLine_5 at hF
  refine x_istore_n (i := 2) (b := 69) (ls2 := [some (xr 12 0), some (xi x1), some (xi y0), none]) dX12_landLine_68 rfl (Nat.le_of_ble_eq_true rfl) rfl rfl ?_
  refine x_iconst (n := 0) (b := 70) dX12_landLine_69 (by decide) rfl ?_
  refine x_istore_n (i := 3) (b := 71) (ls2 := [some (xr 12 0), some (xi x1), some (xi y0), some (xi 0)]) dX12_landLine_70 rfl (Nat.le_of_ble_eq_true rfl) rfl rfl ?_
  exact x_dp (ls2 := [some (xr 12 0), some (xi x1), some (xi y0), some (xi 0)]) ⟨rfl, rfl, rfl, rfl, trivial⟩ (hr_71 x1 y0 0 h hL hF)
set_option maxHeartbeats 4000000 in
set_option maxRecDepth 100000 in
theorem t_X12_landLine_6 (E : xE) (d : Nat) (rec : Rk) (r : Int × Hp) (hr_98 : ∀ (x1 x3 y0 y1 : Int) (h : Hp), Lay h → rec 7 [x1, x3, y0, y1] h = some r → X E mX12_landLine (d + 10) (0, 0) (0, 0) 98 [some (xr 12 0), some (xi x1), none, some (xi x3)] [xi y0, xi y1] h (PoV r)) (hr_122 : ∀ (x1 : Int) (h : Hp), Lay h → rec 8 [x1] h = some r → X E mX12_landLine (d + 10) (0, 0) (0, 0) 122 [some (xr 12 0), some (xi x1), none, none] [] h (PoV r)) (x1 x2 x3 : Int) (h : Hp) (hL : Lay h) (hF : b_X12_landLine_6 rec x1 x2 x3 h = some r) : X E mX12_landLine (d + 10) (0, 0) (0, 0) 71 [some (xr 12 0), some (xi x1), some (xi x2), some (xi x3)] [] h (PoV r) := by
  unfold b_X12_landLine_6 at hF
  refine x_iload_n (i := 3) (b := 72) dX12_landLine_71 rfl rfl rfl ?_
  refine x_aload_n (i := 0) (b := 73) dX12_landLine_72 rfl rfl rfl ?_
  refine x_iconst (n := 5) (b := 74) dX12_landLine_73 (by decide) rfl ?_
  obtain ⟨v1, h2, hq, hF⟩ := bd_e hF
  refine x_callV (as := [xi 5]) (rest := [xi x3]) (b := 77) (c_X12_fresher (d + 8) 5 h _ hL hq) dX12_landLine_74 cw_X12_266 ⟨_, _, rfl, Nat.le_of_ble_eq_true rfl⟩ rfl rfl (Nat.le_of_ble_eq_true rfl) ⟨Nat.le_refl _, Nat.le_refl _⟩ rfl (fun rv hh hp _ => ?_)
  obtain ⟨rfl, rfl, hL⟩ := hp
  refine x_icmp_ge (tgt := 106) (b := 80) dX12_landLine_77 (by decide) rfl (fun hc => ?_) (fun hc => ?_)
  · replace hF := br_T hc hF
    refine x_aload_n (i := 0) (b := 107) dX12_landLine_106 rfl rfl rfl ?_
    refine x_getI (v := gI h2 12 0 32) (b := 110) fk_X12_247 dX12_landLine_107 (by decide) rfl rfl ?_
    refine x_if_ne (tgt := 122) (b := 113) dX12_landLine_110 (by decide) rfl (fun hc => ?_) (fun hc => ?_)
    · replace hF := br_F hc hF
      exact x_dp (ls2 := [some (xr 12 0), some (xi x1), none, none]) ⟨rfl, rfl, trivial⟩ (hr_122 x1 h2 hL hF)
    · replace hF := br_T hc hF
      refine x_iload_n (i := 2) (b := 114) dX12_landLine_113 rfl rfl rfl ?_
      refine x_if_eq (tgt := 122) (b := 117) dX12_landLine_114 (by decide) rfl (fun hc => ?_) (fun hc => ?_)
      · replace hF := br_T hc hF
        exact x_dp (ls2 := [some (xr 12 0), some (xi x1), none, none]) ⟨rfl, rfl, trivial⟩ (hr_122 x1 h2 hL hF)
      · replace hF := br_F hc hF
        refine x_aload_n (i := 0) (b := 118) dX12_landLine_117 rfl rfl rfl ?_
        refine x_iconst (n := 5) (b := 119) dX12_landLine_118 (by decide) rfl ?_
        obtain ⟨v3, h4, hq, hF⟩ := bd_e hF
        refine x_callV (as := [xi 5]) (rest := []) (b := 122) (c_X12_wrong (d + 8) 5 h2 _ hL hq) dX12_landLine_119 cw_X12_256 ⟨_, _, rfl, Nat.le_of_ble_eq_true rfl⟩ rfl rfl (Nat.le_of_ble_eq_true rfl) ⟨Nat.le_refl _, Nat.le_refl _⟩ rfl (fun rv hh hp _ => ?_)
        obtain ⟨rfl, rfl, hL⟩ := hp
        exact x_dp (ls2 := [some (xr 12 0), some (xi x1), none, none]) ⟨rfl, rfl, trivial⟩ (hr_122 x1 h4 hL hF)
  · replace hF := br_F hc hF
    refine x_iload_n (i := 2) (b := 81) dX12_landLine_80 rfl rfl rfl ?_
    refine x_aload_n (i := 0) (b := 82) dX12_landLine_81 rfl rfl rfl ?_
    refine x_getL (j := 0) (t := (64, 0, true)) (b := 85) fk_X12_23 dX12_landLine_82 rfl hL rfl rfl rfl ?_
    refine x_iconst (n := 3) (b := 86) dX12_landLine_85 (by decide) rfl ?_
    refine x_iload_n (i := 3) (b := 87) dX12_landLine_86 rfl rfl rfl ?_
    obtain ⟨hs, hF⟩ := ck_e hF
    refine x_iadd (b := 88) dX12_landLine_87 hs rfl ?_
    obtain ⟨hs, hF⟩ := ck_e hF
    refine x_iald (v := gI h2 64 0 (3 + x3)) (b := 89) ak_64 dX12_landLine_88 hs rfl rfl ?_
    refine x_iload_n (i := 1) (b := 90) dX12_landLine_89 rfl rfl rfl ?_
    refine x_icmp_ne (tgt := 97) (b := 93) dX12_landLine_90 (by decide) rfl (fun hc => ?_) (fun hc => ?_)
    · replace hF := br_F hc hF
      refine x_iconst (n := 0) (b := 98) dX12_landLine_97 (by decide) rfl ?_
      exact x_dp (ls2 := [some (xr 12 0), some (xi x1), none, some (xi x3)]) ⟨rfl, rfl, rfl, trivial⟩ (hr_98 x1 x3 0 x2 h2 hL hF)
    · replace hF := br_T hc hF
      refine x_iconst (n := 1) (b := 94) dX12_landLine_93 (by decide) rfl ?_
      refine x_goto (tgt := 98) dX12_landLine_94 (by decide) ?_
      exact x_dp (ls2 := [some (xr 12 0), some (xi x1), none, some (xi x3)]) ⟨rfl, rfl, rfl, trivial⟩ (hr_98 x1 x3 1 x2 h2 hL hF)
set_option maxHeartbeats 4000000 in
set_option maxRecDepth 100000 in
theorem t_X12_landLine_7 (E : xE) (d : Nat) (rec : Rk) (r : Int × Hp) (hr_71 : ∀ (x1 x2 x3 : Int) (h : Hp), Lay h → rec 6 [x1, x2, x3] h = some r → X E mX12_landLine (d + 10) (0, 0) (0, 0) 71 [some (xr 12 0), some (xi x1), some (xi x2), some (xi x3)] [] h (PoV r)) (x1 x3 y0 y1 : Int) (h : Hp) (hL : Lay h) (hF : b_X12_landLine_7 rec x1 x3 y0 y1 h = some r) : X E mX12_landLine (d + 10) (0, 0) (0, 0) 98 [some (xr 12 0), some (xi x1), none, some (xi x3)] [xi y0, xi y1] h (PoV r) := by
  unfold b_X12_landLine_7 at hF
  refine x_ior (b := 99) dX12_landLine_98 rfl ?_
  obtain ⟨z1, e_z1, hF⟩ := lt_e hF
  refine x_eq (y := z1) e_z1 ?_
  refine x_istore_n (i := 2) (b := 100) (ls2 := [some (xr 12 0), some (xi x1), some (xi z1), some (xi x3)]) dX12_landLine_99 rfl (Nat.le_of_ble_eq_true rfl) rfl rfl ?_
  obtain ⟨hs, hF⟩ := ck_e hF
  refine x_iinc (i := 3) (b := 103) (ls2 := [some (xr 12 0), some (xi x1), some (xi z1), some (xi (x3 + 1))]) dX12_landLine_100 rfl (Nat.le_of_ble_eq_true rfl) hs rfl rfl ?_
  refine x_goto (tgt := 71) dX12_landLine_103 (by decide) ?_
  exact x_dp (ls2 := [some (xr 12 0), some (xi x1), some (xi z1), some (xi (x3 + 1))]) ⟨rfl, rfl, rfl, rfl, trivial⟩ (hr_71 x1 z1 (x3 + 1) h hL hF)
set_option maxHeartbeats 4000000 in
set_option maxRecDepth 100000 in
theorem t_X12_landLine_8 (E : xE) (d : Nat) (rec : Rk) (r : Int × Hp) (x1 : Int) (h : Hp) (hL : Lay h) (hF : b_X12_landLine_8 rec x1 h = some r) : X E mX12_landLine (d + 10) (0, 0) (0, 0) 122 [some (xr 12 0), some (xi x1), none, none] [] h (PoV r) := by
  unfold b_X12_landLine_8 at hF
  refine x_aload_n (i := 0) (b := 123) dX12_landLine_122 rfl rfl rfl ?_
  refine x_getI (v := gI h 12 0 32) (b := 126) fk_X12_247 dX12_landLine_123 (by decide) rfl rfl ?_
  refine x_if_eq (tgt := 130) (b := 129) dX12_landLine_126 (by decide) rfl (fun hc => ?_) (fun hc => ?_)
  · replace hF := br_T hc hF
    refine x_aload_n (i := 0) (b := 131) dX12_landLine_130 rfl rfl rfl ?_
    refine x_getL (j := 0) (t := (62, 0, true)) (b := 134) fk_X12_16 dX12_landLine_131 rfl hL rfl rfl rfl ?_
    refine x_bipush (n := 64) (b := 136) dX12_landLine_134 (by decide) rfl ?_
    refine x_iload_n (i := 1) (b := 137) dX12_landLine_136 rfl rfl rfl ?_
    obtain ⟨hs, hF⟩ := ck_e hF
    refine x_iadd (b := 138) dX12_landLine_137 hs rfl ?_
    refine x_iconst (n := 1) (b := 139) dX12_landLine_138 (by decide) rfl ?_
    obtain ⟨hs, hF⟩ := ck_e hF
    have hs1 := hs
    refine x_zast (b := 140) ak_62 dX12_landLine_139 hs1 (by decide) rfl ?_
    obtain ⟨h1, e_h1, hF⟩ := lt_e hF
    refine x_hp (h2 := h1) e_h1 ?_
    replace hL : Lay h1 := by rw [← e_h1]; exact hL
    refine x_aload_n (i := 0) (b := 141) dX12_landLine_140 rfl rfl rfl ?_
    refine x_iconst (n := 2) (b := 142) dX12_landLine_141 (by decide) rfl ?_
    refine x_aload_n (i := 0) (b := 143) dX12_landLine_142 rfl rfl rfl ?_
    refine x_iconst (n := 2) (b := 144) dX12_landLine_143 (by decide) rfl ?_
    obtain ⟨v2, h3, hq, hF⟩ := bd_e hF
    refine x_callV (as := [xi 2]) (rest := [xi 2, xr 12 0]) (b := 147) (c_X12_fresher (d + 8) 2 h1 _ hL hq) dX12_landLine_144 cw_X12_266 ⟨_, _, rfl, Nat.le_of_ble_eq_true rfl⟩ rfl rfl (Nat.le_of_ble_eq_true rfl) ⟨Nat.le_refl _, Nat.le_refl _⟩ rfl (fun rv hh hp _ => ?_)
    obtain ⟨rfl, rfl, hL⟩ := hp
    refine x_iconst (n := 1) (b := 148) dX12_landLine_147 (by decide) rfl ?_
    obtain ⟨hs, hF⟩ := ck_e hF
    refine x_iadd (b := 149) dX12_landLine_148 hs rfl ?_
    obtain ⟨v4, h5, hq, hF⟩ := bd_e hF
    refine x_callV (as := [xi 2, xi (v2 + 1)]) (rest := []) (b := 152) (c_X12_reads (d + 8) 2 (v2 + 1) h3 _ hL hq) dX12_landLine_149 cw_X12_288 ⟨_, _, rfl, Nat.le_of_ble_eq_true rfl⟩ rfl rfl (Nat.le_of_ble_eq_true rfl) ⟨Nat.le_refl _, Nat.le_refl _⟩ rfl (fun rv hh hp _ => ?_)
    obtain ⟨rfl, rfl, hL⟩ := hp
    refine x_aload_n (i := 0) (b := 153) dX12_landLine_152 rfl rfl rfl ?_
    obtain ⟨v6, h7, hq, hF⟩ := bd_e hF
    refine x_callV (as := []) (rest := []) (b := 156) (c_X12_token (d + 3) h5 _ hL hq) dX12_landLine_153 cw_X12_253 ⟨_, _, rfl, Nat.le_of_ble_eq_true rfl⟩ rfl rfl (Nat.le_of_ble_eq_true rfl) ⟨Nat.le_refl _, Nat.le_refl _⟩ rfl (fun rv hh hp _ => ?_)
    obtain ⟨rfl, rfl, hL⟩ := hp
    refine x_return dX12_landLine_156 rfl ⟨Nat.le_refl _, Nat.le_refl _⟩ ?_
    cases hF
    exact ⟨rfl, rfl, hL⟩
  · replace hF := br_F hc hF
    refine x_return dX12_landLine_129 rfl ⟨Nat.le_refl _, Nat.le_refl _⟩ ?_
    cases hF
    exact ⟨rfl, rfl, hL⟩
set_option maxHeartbeats 4000000 in
set_option maxRecDepth 100000 in
theorem u_X12_landLine (E : xE) (d : Nat) (r : Int × Hp) : ∀ n : Nat, (∀ (h : Hp), Lay h → g_X12_landLine n 0 [] h = some r → X E mX12_landLine (d + 10) (0, 0) (0, 0) 0 [some (xr 12 0), none, none, none] [] h (PoV r)) ∧ (∀ (x1 : Int) (h : Hp), Lay h → g_X12_landLine n 1 [x1] h = some r → X E mX12_landLine (d + 10) (0, 0) (0, 0) 29 [some (xr 12 0), some (xi x1), none, none] [] h (PoV r)) ∧ (∀ (x1 : Int) (h : Hp), Lay h → g_X12_landLine n 2 [x1] h = some r → X E mX12_landLine (d + 10) (0, 0) (0, 0) 46 [some (xr 12 0), some (xi x1), none, none] [] h (PoV r)) ∧ (∀ (x1 : Int) (h : Hp), Lay h → g_X12_landLine n 3 [x1] h = some r → X E mX12_landLine (d + 10) (0, 0) (0, 0) 63 [some (xr 12 0), some (xi x1), none, none] [] h (PoV r)) ∧ (∀ (x1 : Int) (h : Hp), Lay h → g_X12_landLine n 4 [x1] h = some r → X E mX12_landLine (d + 10) (0, 0) (0, 0) 67 [some (xr 12 0), some (xi x1), none, none] [] h (PoV r)) ∧ (∀ (x1 y0 : Int) (h : Hp), Lay h → g_X12_landLine n 5 [x1, y0] h = some r → X E mX12_landLine (d + 10) (0, 0) (0, 0) 68 [some (xr 12 0), some (xi x1), none, none] [xi y0] h (PoV r)) ∧ (∀ (x1 x2 x3 : Int) (h : Hp), Lay h → g_X12_landLine n 6 [x1, x2, x3] h = some r → X E mX12_landLine (d + 10) (0, 0) (0, 0) 71 [some (xr 12 0), some (xi x1), some (xi x2), some (xi x3)] [] h (PoV r)) ∧ (∀ (x1 x3 y0 y1 : Int) (h : Hp), Lay h → g_X12_landLine n 7 [x1, x3, y0, y1] h = some r → X E mX12_landLine (d + 10) (0, 0) (0, 0) 98 [some (xr 12 0), some (xi x1), none, some (xi x3)] [xi y0, xi y1] h (PoV r)) ∧ (∀ (x1 : Int) (h : Hp), Lay h → g_X12_landLine n 8 [x1] h = some r → X E mX12_landLine (d + 10) (0, 0) (0, 0) 122 [some (xr 12 0), some (xi x1), none, none] [] h (PoV r)) := by
  intro n
  induction n with
  | zero => exact ⟨fun _ _ hF => no_e (r := r) hF, fun _ _ _ hF => no_e (r := r) hF, fun _ _ _ hF => no_e (r := r) hF, fun _ _ _ hF => no_e (r := r) hF, fun _ _ _ hF => no_e (r := r) hF, fun _ _ _ _ hF => no_e (r := r) hF, fun _ _ _ _ _ hF => no_e (r := r) hF, fun _ _ _ _ _ _ hF => no_e (r := r) hF, fun _ _ _ hF => no_e (r := r) hF⟩
  | succ n ih => exact ⟨fun h hL hF => t_X12_landLine_0 E d (g_X12_landLine n) r ih.2.1  h hL hF, fun x1 h hL hF => t_X12_landLine_1 E d (g_X12_landLine n) r ih.2.2.1 ih.2.2.2.1 x1 h hL hF, fun x1 h hL hF => t_X12_landLine_2 E d (g_X12_landLine n) r ih.2.2.2.1 ih.2.2.2.2.1 x1 h hL hF, fun x1 h hL hF => t_X12_landLine_3 E d (g_X12_landLine n) r ih.2.2.2.2.2.1 x1 h hL hF, fun x1 h hL hF => t_X12_landLine_4 E d (g_X12_landLine n) r ih.2.2.2.2.2.1 x1 h hL hF, fun x1 y0 h hL hF => t_X12_landLine_5 E d (g_X12_landLine n) r ih.2.2.2.2.2.2.1 x1 y0 h hL hF, fun x1 x2 x3 h hL hF => t_X12_landLine_6 E d (g_X12_landLine n) r ih.2.2.2.2.2.2.2.1 ih.2.2.2.2.2.2.2.2 x1 x2 x3 h hL hF, fun x1 x3 y0 y1 h hL hF => t_X12_landLine_7 E d (g_X12_landLine n) r ih.2.2.2.2.2.2.1 x1 x3 y0 y1 h hL hF, fun x1 h hL hF => t_X12_landLine_8 E d (g_X12_landLine n) r  x1 h hL hF⟩
theorem c_X12_landLine (d : Nat) (h : Hp) (r : Int × Hp) (hL : Lay h) (hF : f_X12_landLine  h = some r) : Sp mX12_landLine (d + 10) (0, 0) [xr 12 0] h (PoV r) :=
  sp_of (by decide) rfl (Nat.le_of_ble_eq_true rfl) (ls := [some (xr 12 0), none, none, none]) rfl (fun E _ => (u_X12_landLine E d r FU).1  h hL hF)
theorem dX12_mouthLine_0 : decode cX12_mouthLine 0 = .ok (.aload_n 0, 1) := by decide +kernel
theorem dX12_mouthLine_1 : decode cX12_mouthLine 1 = .ok (.getfield 213, 3) := by decide +kernel
theorem dX12_mouthLine_4 : decode cX12_mouthLine 4 = .ok (.iconst 1, 1) := by decide +kernel
theorem dX12_mouthLine_5 : decode cX12_mouthLine 5 = .ok (.if_icmp .eq 11, 3) := by decide +kernel
theorem dX12_mouthLine_8 : decode cX12_mouthLine 8 = .ok (.aload_n 0, 1) := by decide +kernel
theorem dX12_mouthLine_9 : decode cX12_mouthLine 9 = .ok (.iconst 1, 1) := by decide +kernel
theorem dX12_mouthLine_10 : decode cX12_mouthLine 10 = .ok (.invokevirtual 256, 3) := by decide +kernel
theorem dX12_mouthLine_13 : decode cX12_mouthLine 13 = .ok (.goto 20, 3) := by decide +kernel
theorem dX12_mouthLine_16 : decode cX12_mouthLine 16 = .ok (.aload_n 0, 1) := by decide +kernel
theorem dX12_mouthLine_17 : decode cX12_mouthLine 17 = .ok (.aload_n 0, 1) := by decide +kernel
theorem dX12_mouthLine_18 : decode cX12_mouthLine 18 = .ok (.getfield 223, 3) := by decide +kernel
theorem dX12_mouthLine_21 : decode cX12_mouthLine 21 = .ok (.invokevirtual 318, 3) := by decide +kernel
theorem dX12_mouthLine_24 : decode cX12_mouthLine 24 = .ok (.iconst (-1), 1) := by decide +kernel
theorem dX12_mouthLine_25 : decode cX12_mouthLine 25 = .ok (.if_icmp .eq 8, 3) := by decide +kernel
theorem dX12_mouthLine_28 : decode cX12_mouthLine 28 = .ok (.aload_n 0, 1) := by decide +kernel
theorem dX12_mouthLine_29 : decode cX12_mouthLine 29 = .ok (.iconst 3, 1) := by decide +kernel
theorem dX12_mouthLine_30 : decode cX12_mouthLine 30 = .ok (.invokevirtual 256, 3) := by decide +kernel
theorem dX12_mouthLine_33 : decode cX12_mouthLine 33 = .ok (.aload_n 0, 1) := by decide +kernel
theorem dX12_mouthLine_34 : decode cX12_mouthLine 34 = .ok (.getfield 247, 3) := by decide +kernel
theorem dX12_mouthLine_37 : decode cX12_mouthLine 37 = .ok (.ifCond .eq 4, 3) := by decide +kernel
theorem dX12_mouthLine_40 : decode cX12_mouthLine 40 = .ok (.return_, 1) := by decide +kernel
theorem dX12_mouthLine_41 : decode cX12_mouthLine 41 = .ok (.aload_n 0, 1) := by decide +kernel
theorem dX12_mouthLine_42 : decode cX12_mouthLine 42 = .ok (.getfield 44, 3) := by decide +kernel
theorem dX12_mouthLine_45 : decode cX12_mouthLine 45 = .ok (.iload_n 1, 1) := by decide +kernel
theorem dX12_mouthLine_46 : decode cX12_mouthLine 46 = .ok (.aload_n 0, 1) := by decide +kernel
theorem dX12_mouthLine_47 : decode cX12_mouthLine 47 = .ok (.getfield 223, 3) := by decide +kernel
theorem dX12_mouthLine_50 : decode cX12_mouthLine 50 = .ok (.iastore, 1) := by decide +kernel
theorem dX12_mouthLine_51 : decode cX12_mouthLine 51 = .ok (.aload_n 0, 1) := by decide +kernel
theorem dX12_mouthLine_52 : decode cX12_mouthLine 52 = .ok (.invokevirtual 253, 3) := by decide +kernel
theorem dX12_mouthLine_55 : decode cX12_mouthLine 55 = .ok (.aload_n 0, 1) := by decide +kernel
theorem dX12_mouthLine_56 : decode cX12_mouthLine 56 = .ok (.getfield 47, 3) := by decide +kernel
theorem dX12_mouthLine_59 : decode cX12_mouthLine 59 = .ok (.iload_n 1, 1) := by decide +kernel
theorem dX12_mouthLine_60 : decode cX12_mouthLine 60 = .ok (.aload_n 0, 1) := by decide +kernel
theorem dX12_mouthLine_61 : decode cX12_mouthLine 61 = .ok (.iconst 0, 1) := by decide +kernel
theorem dX12_mouthLine_62 : decode cX12_mouthLine 62 = .ok (.bipush 9, 2) := by decide +kernel
theorem dX12_mouthLine_64 : decode cX12_mouthLine 64 = .ok (.invokevirtual 270, 3) := by decide +kernel
theorem dX12_mouthLine_67 : decode cX12_mouthLine 67 = .ok (.iastore, 1) := by decide +kernel
theorem dX12_mouthLine_68 : decode cX12_mouthLine 68 = .ok (.aload_n 0, 1) := by decide +kernel
theorem dX12_mouthLine_69 : decode cX12_mouthLine 69 = .ok (.getfield 65, 3) := by decide +kernel
theorem dX12_mouthLine_72 : decode cX12_mouthLine 72 = .ok (.iload_n 1, 1) := by decide +kernel
theorem dX12_mouthLine_73 : decode cX12_mouthLine 73 = .ok (.iconst 0, 1) := by decide +kernel
theorem dX12_mouthLine_74 : decode cX12_mouthLine 74 = .ok (.iastore, 1) := by decide +kernel
theorem dX12_mouthLine_75 : decode cX12_mouthLine 75 = .ok (.iload_n 2, 1) := by decide +kernel
theorem dX12_mouthLine_76 : decode cX12_mouthLine 76 = .ok (.ifCond .eq 41, 3) := by decide +kernel
theorem dX12_mouthLine_79 : decode cX12_mouthLine 79 = .ok (.aload_n 0, 1) := by decide +kernel
theorem dX12_mouthLine_80 : decode cX12_mouthLine 80 = .ok (.getfield 247, 3) := by decide +kernel
theorem dX12_mouthLine_83 : decode cX12_mouthLine 83 = .ok (.ifCond .ne 17, 3) := by decide +kernel
theorem dX12_mouthLine_86 : decode cX12_mouthLine 86 = .ok (.aload_n 0, 1) := by decide +kernel
theorem dX12_mouthLine_87 : decode cX12_mouthLine 87 = .ok (.bipush 12, 2) := by decide +kernel
theorem dX12_mouthLine_89 : decode cX12_mouthLine 89 = .ok (.invokevirtual 321, 3) := by decide +kernel
theorem dX12_mouthLine_92 : decode cX12_mouthLine 92 = .ok (.ifCond .ne 8, 3) := by decide +kernel
theorem dX12_mouthLine_95 : decode cX12_mouthLine 95 = .ok (.aload_n 0, 1) := by decide +kernel
theorem dX12_mouthLine_96 : decode cX12_mouthLine 96 = .ok (.iconst 1, 1) := by decide +kernel
theorem dX12_mouthLine_97 : decode cX12_mouthLine 97 = .ok (.invokevirtual 256, 3) := by decide +kernel
theorem dX12_mouthLine_100 : decode cX12_mouthLine 100 = .ok (.aload_n 0, 1) := by decide +kernel
theorem dX12_mouthLine_101 : decode cX12_mouthLine 101 = .ok (.invokevirtual 263, 3) := by decide +kernel
theorem dX12_mouthLine_104 : decode cX12_mouthLine 104 = .ok (.aload_n 0, 1) := by decide +kernel
theorem dX12_mouthLine_105 : decode cX12_mouthLine 105 = .ok (.getfield 65, 3) := by decide +kernel
theorem dX12_mouthLine_108 : decode cX12_mouthLine 108 = .ok (.iload_n 1, 1) := by decide +kernel
theorem dX12_mouthLine_109 : decode cX12_mouthLine 109 = .ok (.aload_n 0, 1) := by decide +kernel
theorem dX12_mouthLine_110 : decode cX12_mouthLine 110 = .ok (.iconst 1, 1) := by decide +kernel
theorem dX12_mouthLine_111 : decode cX12_mouthLine 111 = .ok (.bipush 99, 2) := by decide +kernel
theorem dX12_mouthLine_113 : decode cX12_mouthLine 113 = .ok (.invokevirtual 270, 3) := by decide +kernel
theorem dX12_mouthLine_116 : decode cX12_mouthLine 116 = .ok (.iastore, 1) := by decide +kernel
theorem dX12_mouthLine_117 : decode cX12_mouthLine 117 = .ok (.aload_n 0, 1) := by decide +kernel
theorem dX12_mouthLine_118 : decode cX12_mouthLine 118 = .ok (.getfield 50, 3) := by decide +kernel
theorem dX12_mouthLine_121 : decode cX12_mouthLine 121 = .ok (.iload_n 1, 1) := by decide +kernel
theorem dX12_mouthLine_122 : decode cX12_mouthLine 122 = .ok (.iconst 0, 1) := by decide +kernel
theorem dX12_mouthLine_123 : decode cX12_mouthLine 123 = .ok (.iastore, 1) := by decide +kernel
theorem dX12_mouthLine_124 : decode cX12_mouthLine 124 = .ok (.aload_n 0, 1) := by decide +kernel
theorem dX12_mouthLine_125 : decode cX12_mouthLine 125 = .ok (.getfield 53, 3) := by decide +kernel
theorem dX12_mouthLine_128 : decode cX12_mouthLine 128 = .ok (.iload_n 1, 1) := by decide +kernel
theorem dX12_mouthLine_129 : decode cX12_mouthLine 129 = .ok (.bipush 59, 2) := by decide +kernel
theorem dX12_mouthLine_131 : decode cX12_mouthLine 131 = .ok (.iastore, 1) := by decide +kernel
theorem dX12_mouthLine_132 : decode cX12_mouthLine 132 = .ok (.aload_n 0, 1) := by decide +kernel
theorem dX12_mouthLine_133 : decode cX12_mouthLine 133 = .ok (.getfield 56, 3) := by decide +kernel
theorem dX12_mouthLine_136 : decode cX12_mouthLine 136 = .ok (.iload_n 1, 1) := by decide +kernel
theorem dX12_mouthLine_137 : decode cX12_mouthLine 137 = .ok (.bipush 99, 2) := by decide +kernel
theorem dX12_mouthLine_139 : decode cX12_mouthLine 139 = .ok (.iastore, 1) := by decide +kernel
theorem dX12_mouthLine_140 : decode cX12_mouthLine 140 = .ok (.aload_n 0, 1) := by decide +kernel
theorem dX12_mouthLine_141 : decode cX12_mouthLine 141 = .ok (.getfield 59, 3) := by decide +kernel
theorem dX12_mouthLine_144 : decode cX12_mouthLine 144 = .ok (.iload_n 1, 1) := by decide +kernel
theorem dX12_mouthLine_145 : decode cX12_mouthLine 145 = .ok (.iconst (-1), 1) := by decide +kernel
theorem dX12_mouthLine_146 : decode cX12_mouthLine 146 = .ok (.iastore, 1) := by decide +kernel
theorem dX12_mouthLine_147 : decode cX12_mouthLine 147 = .ok (.aload_n 0, 1) := by decide +kernel
theorem dX12_mouthLine_148 : decode cX12_mouthLine 148 = .ok (.getfield 62, 3) := by decide +kernel
theorem dX12_mouthLine_151 : decode cX12_mouthLine 151 = .ok (.iload_n 1, 1) := by decide +kernel
theorem dX12_mouthLine_152 : decode cX12_mouthLine 152 = .ok (.bipush 99, 2) := by decide +kernel
theorem dX12_mouthLine_154 : decode cX12_mouthLine 154 = .ok (.iastore, 1) := by decide +kernel
theorem dX12_mouthLine_155 : decode cX12_mouthLine 155 = .ok (.iconst 0, 1) := by decide +kernel
theorem dX12_mouthLine_156 : decode cX12_mouthLine 156 = .ok (.istore_n 3, 1) := by decide +kernel
theorem dX12_mouthLine_157 : decode cX12_mouthLine 157 = .ok (.aload_n 0, 1) := by decide +kernel
theorem dX12_mouthLine_158 : decode cX12_mouthLine 158 = .ok (.getfield 247, 3) := by decide +kernel
theorem dX12_mouthLine_161 : decode cX12_mouthLine 161 = .ok (.ifCond .ne 178, 3) := by decide +kernel
theorem dX12_mouthLine_164 : decode cX12_mouthLine 164 = .ok (.aload_n 0, 1) := by decide +kernel
theorem dX12_mouthLine_165 : decode cX12_mouthLine 165 = .ok (.getfield 213, 3) := by decide +kernel
theorem dX12_mouthLine_168 : decode cX12_mouthLine 168 = .ok (.ifCond .ne 171, 3) := by decide +kernel
theorem dX12_mouthLine_171 : decode cX12_mouthLine 171 = .ok (.aload_n 0, 1) := by decide +kernel
theorem dX12_mouthLine_172 : decode cX12_mouthLine 172 = .ok (.getfield 223, 3) := by decide +kernel
theorem dX12_mouthLine_175 : decode cX12_mouthLine 175 = .ok (.bipush 13, 2) := by decide +kernel
theorem dX12_mouthLine_177 : decode cX12_mouthLine 177 = .ok (.if_icmp .lt 162, 3) := by decide +kernel
theorem dX12_mouthLine_180 : decode cX12_mouthLine 180 = .ok (.aload_n 0, 1) := by decide +kernel
theorem dX12_mouthLine_181 : decode cX12_mouthLine 181 = .ok (.getfield 223, 3) := by decide +kernel
theorem dX12_mouthLine_184 : decode cX12_mouthLine 184 = .ok (.bipush 16, 2) := by decide +kernel
theorem dX12_mouthLine_186 : decode cX12_mouthLine 186 = .ok (.if_icmp .gt 153, 3) := by decide +kernel
theorem dX12_mouthLine_189 : decode cX12_mouthLine 189 = .ok (.aload_n 0, 1) := by decide +kernel
theorem dX12_mouthLine_190 : decode cX12_mouthLine 190 = .ok (.getfield 223, 3) := by decide +kernel
theorem dX12_mouthLine_193 : decode cX12_mouthLine 193 = .ok (.istore 4, 2) := by decide +kernel
theorem dX12_mouthLine_195 : decode cX12_mouthLine 195 = .ok (.iload_n 3, 1) := by decide +kernel
theorem dX12_mouthLine_196 : decode cX12_mouthLine 196 = .ok (.iload 4, 2) := by decide +kernel
theorem dX12_mouthLine_198 : decode cX12_mouthLine 198 = .ok (.ishr, 1) := by decide +kernel
theorem dX12_mouthLine_199 : decode cX12_mouthLine 199 = .ok (.iconst 1, 1) := by decide +kernel
theorem dX12_mouthLine_200 : decode cX12_mouthLine 200 = .ok (.iand, 1) := by decide +kernel
theorem dX12_mouthLine_201 : decode cX12_mouthLine 201 = .ok (.iconst 1, 1) := by decide +kernel
theorem dX12_mouthLine_202 : decode cX12_mouthLine 202 = .ok (.if_icmp .ne 8, 3) := by decide +kernel
theorem dX12_mouthLine_205 : decode cX12_mouthLine 205 = .ok (.aload_n 0, 1) := by decide +kernel
theorem dX12_mouthLine_206 : decode cX12_mouthLine 206 = .ok (.iconst 3, 1) := by decide +kernel
theorem dX12_mouthLine_207 : decode cX12_mouthLine 207 = .ok (.invokevirtual 256, 3) := by decide +kernel
theorem dX12_mouthLine_210 : decode cX12_mouthLine 210 = .ok (.iload_n 3, 1) := by decide +kernel
theorem dX12_mouthLine_211 : decode cX12_mouthLine 211 = .ok (.iconst 1, 1) := by decide +kernel
theorem dX12_mouthLine_212 : decode cX12_mouthLine 212 = .ok (.iload 4, 2) := by decide +kernel
theorem dX12_mouthLine_214 : decode cX12_mouthLine 214 = .ok (.ishl, 1) := by decide +kernel
theorem dX12_mouthLine_215 : decode cX12_mouthLine 215 = .ok (.ior, 1) := by decide +kernel
theorem dX12_mouthLine_216 : decode cX12_mouthLine 216 = .ok (.istore_n 3, 1) := by decide +kernel
theorem dX12_mouthLine_217 : decode cX12_mouthLine 217 = .ok (.aload_n 0, 1) := by decide +kernel
theorem dX12_mouthLine_218 : decode cX12_mouthLine 218 = .ok (.invokevirtual 263, 3) := by decide +kernel
theorem dX12_mouthLine_221 : decode cX12_mouthLine 221 = .ok (.iload 4, 2) := by decide +kernel
theorem dX12_mouthLine_223 : decode cX12_mouthLine 223 = .ok (.tableswitch 100 13 15 #[25, 45, 66], 25) := by decide +kernel
theorem dX12_mouthLine_248 : decode cX12_mouthLine 248 = .ok (.aload_n 0, 1) := by decide +kernel
theorem dX12_mouthLine_249 : decode cX12_mouthLine 249 = .ok (.getfield 50, 3) := by decide +kernel
theorem dX12_mouthLine_252 : decode cX12_mouthLine 252 = .ok (.iload_n 1, 1) := by decide +kernel
theorem dX12_mouthLine_253 : decode cX12_mouthLine 253 = .ok (.aload_n 0, 1) := by decide +kernel
theorem dX12_mouthLine_254 : decode cX12_mouthLine 254 = .ok (.iconst 0, 1) := by decide +kernel
theorem dX12_mouthLine_255 : decode cX12_mouthLine 255 = .ok (.aload_n 0, 1) := by decide +kernel
theorem dX12_mouthLine_256 : decode cX12_mouthLine 256 = .ok (.getfield 53, 3) := by decide +kernel
theorem dX12_mouthLine_259 : decode cX12_mouthLine 259 = .ok (.iload_n 1, 1) := by decide +kernel
theorem dX12_mouthLine_260 : decode cX12_mouthLine 260 = .ok (.iaload, 1) := by decide +kernel
theorem dX12_mouthLine_261 : decode cX12_mouthLine 261 = .ok (.invokevirtual 270, 3) := by decide +kernel
theorem dX12_mouthLine_264 : decode cX12_mouthLine 264 = .ok (.iastore, 1) := by decide +kernel
theorem dX12_mouthLine_265 : decode cX12_mouthLine 265 = .ok (.goto 71, 3) := by decide +kernel
theorem dX12_mouthLine_268 : decode cX12_mouthLine 268 = .ok (.aload_n 0, 1) := by decide +kernel
theorem dX12_mouthLine_269 : decode cX12_mouthLine 269 = .ok (.getfield 53, 3) := by decide +kernel
theorem dX12_mouthLine_272 : decode cX12_mouthLine 272 = .ok (.iload_n 1, 1) := by decide +kernel
theorem dX12_mouthLine_273 : decode cX12_mouthLine 273 = .ok (.aload_n 0, 1) := by decide +kernel
theorem dX12_mouthLine_274 : decode cX12_mouthLine 274 = .ok (.aload_n 0, 1) := by decide +kernel
theorem dX12_mouthLine_275 : decode cX12_mouthLine 275 = .ok (.getfield 50, 3) := by decide +kernel
theorem dX12_mouthLine_278 : decode cX12_mouthLine 278 = .ok (.iload_n 1, 1) := by decide +kernel
theorem dX12_mouthLine_279 : decode cX12_mouthLine 279 = .ok (.iaload, 1) := by decide +kernel
theorem dX12_mouthLine_280 : decode cX12_mouthLine 280 = .ok (.bipush 59, 2) := by decide +kernel
theorem dX12_mouthLine_282 : decode cX12_mouthLine 282 = .ok (.invokevirtual 270, 3) := by decide +kernel
theorem dX12_mouthLine_285 : decode cX12_mouthLine 285 = .ok (.iastore, 1) := by decide +kernel
theorem dX12_mouthLine_286 : decode cX12_mouthLine 286 = .ok (.goto 50, 3) := by decide +kernel
theorem dX12_mouthLine_289 : decode cX12_mouthLine 289 = .ok (.aload_n 0, 1) := by decide +kernel
theorem dX12_mouthLine_290 : decode cX12_mouthLine 290 = .ok (.getfield 56, 3) := by decide +kernel
theorem dX12_mouthLine_293 : decode cX12_mouthLine 293 = .ok (.iload_n 1, 1) := by decide +kernel
theorem dX12_mouthLine_294 : decode cX12_mouthLine 294 = .ok (.aload_n 0, 1) := by decide +kernel
theorem dX12_mouthLine_295 : decode cX12_mouthLine 295 = .ok (.iconst 0, 1) := by decide +kernel
theorem dX12_mouthLine_296 : decode cX12_mouthLine 296 = .ok (.bipush 59, 2) := by decide +kernel
theorem dX12_mouthLine_298 : decode cX12_mouthLine 298 = .ok (.invokevirtual 270, 3) := by decide +kernel
theorem dX12_mouthLine_301 : decode cX12_mouthLine 301 = .ok (.iastore, 1) := by decide +kernel
theorem dX12_mouthLine_302 : decode cX12_mouthLine 302 = .ok (.aload_n 0, 1) := by decide +kernel
theorem dX12_mouthLine_303 : decode cX12_mouthLine 303 = .ok (.getfield 59, 3) := by decide +kernel
theorem dX12_mouthLine_306 : decode cX12_mouthLine 306 = .ok (.iload_n 1, 1) := by decide +kernel
theorem dX12_mouthLine_307 : decode cX12_mouthLine 307 = .ok (.aload_n 0, 1) := by decide +kernel
theorem dX12_mouthLine_308 : decode cX12_mouthLine 308 = .ok (.aload_n 0, 1) := by decide +kernel
theorem dX12_mouthLine_309 : decode cX12_mouthLine 309 = .ok (.getfield 56, 3) := by decide +kernel
theorem dX12_mouthLine_312 : decode cX12_mouthLine 312 = .ok (.iload_n 1, 1) := by decide +kernel
theorem dX12_mouthLine_313 : decode cX12_mouthLine 313 = .ok (.iaload, 1) := by decide +kernel
theorem dX12_mouthLine_314 : decode cX12_mouthLine 314 = .ok (.bipush 59, 2) := by decide +kernel
theorem dX12_mouthLine_316 : decode cX12_mouthLine 316 = .ok (.invokevirtual 270, 3) := by decide +kernel
theorem dX12_mouthLine_319 : decode cX12_mouthLine 319 = .ok (.iastore, 1) := by decide +kernel
theorem dX12_mouthLine_320 : decode cX12_mouthLine 320 = .ok (.goto 16, 3) := by decide +kernel
theorem dX12_mouthLine_323 : decode cX12_mouthLine 323 = .ok (.aload_n 0, 1) := by decide +kernel
theorem dX12_mouthLine_324 : decode cX12_mouthLine 324 = .ok (.getfield 62, 3) := by decide +kernel
theorem dX12_mouthLine_327 : decode cX12_mouthLine 327 = .ok (.iload_n 1, 1) := by decide +kernel
theorem dX12_mouthLine_328 : decode cX12_mouthLine 328 = .ok (.aload_n 0, 1) := by decide +kernel
theorem dX12_mouthLine_329 : decode cX12_mouthLine 329 = .ok (.iconst 1, 1) := by decide +kernel
theorem dX12_mouthLine_330 : decode cX12_mouthLine 330 = .ok (.bipush 99, 2) := by decide +kernel
theorem dX12_mouthLine_332 : decode cX12_mouthLine 332 = .ok (.invokevirtual 270, 3) := by decide +kernel
theorem dX12_mouthLine_335 : decode cX12_mouthLine 335 = .ok (.iastore, 1) := by decide +kernel
theorem dX12_mouthLine_336 : decode cX12_mouthLine 336 = .ok (.goto (-179), 3) := by decide +kernel
theorem dX12_mouthLine_339 : decode cX12_mouthLine 339 = .ok (.aload_n 0, 1) := by decide +kernel
theorem dX12_mouthLine_340 : decode cX12_mouthLine 340 = .ok (.getfield 68, 3) := by decide +kernel
theorem dX12_mouthLine_343 : decode cX12_mouthLine 343 = .ok (.iload_n 1, 1) := by decide +kernel
theorem dX12_mouthLine_344 : decode cX12_mouthLine 344 = .ok (.aload_n 0, 1) := by decide +kernel
theorem dX12_mouthLine_345 : decode cX12_mouthLine 345 = .ok (.bipush 14, 2) := by decide +kernel
theorem dX12_mouthLine_347 : decode cX12_mouthLine 347 = .ok (.invokevirtual 266, 3) := by decide +kernel
theorem dX12_mouthLine_350 : decode cX12_mouthLine 350 = .ok (.iastore, 1) := by decide +kernel
theorem dX12_mouthLine_351 : decode cX12_mouthLine 351 = .ok (.aload_n 0, 1) := by decide +kernel
theorem dX12_mouthLine_352 : decode cX12_mouthLine 352 = .ok (.invokevirtual 324, 3) := by decide +kernel
theorem dX12_mouthLine_355 : decode cX12_mouthLine 355 = .ok (.aload_n 0, 1) := by decide +kernel
theorem dX12_mouthLine_356 : decode cX12_mouthLine 356 = .ok (.getfield 71, 3) := by decide +kernel
theorem dX12_mouthLine_359 : decode cX12_mouthLine 359 = .ok (.iload_n 1, 1) := by decide +kernel
theorem dX12_mouthLine_360 : decode cX12_mouthLine 360 = .ok (.aload_n 0, 1) := by decide +kernel
theorem dX12_mouthLine_361 : decode cX12_mouthLine 361 = .ok (.bipush 14, 2) := by decide +kernel
theorem dX12_mouthLine_363 : decode cX12_mouthLine 363 = .ok (.invokevirtual 266, 3) := by decide +kernel
theorem dX12_mouthLine_366 : decode cX12_mouthLine 366 = .ok (.iastore, 1) := by decide +kernel
theorem dX12_mouthLine_367 : decode cX12_mouthLine 367 = .ok (.return_, 1) := by decide +kernel
noncomputable def b_X12_mouthLine_0 (rec : Rk) (x1 x2 : Int) (h : Hp) : Option (Int × Hp) :=
  if (gI h 12 0 30) = 1 then (
    bd (f_X12_mouthNamed (gI h 12 0 31) h) fun v1 h2 =>
    if v1 = (-1) then (
      rec 1 [x1, x2] h2
    ) else (
      bd (f_X12_wrong 3 h2) fun v3 h4 =>
      rec 1 [x1, x2] h4
    )
  ) else (
    bd (f_X12_wrong 1 h) fun v5 h6 =>
    rec 1 [x1, x2] h6
  )
noncomputable def b_X12_mouthLine_1 (rec : Rk) (x1 x2 : Int) (h : Hp) : Option (Int × Hp) :=
  if (gI h 12 0 32) = 0 then (
    ck (0 ≤ x1 ∧ x1 < 18) <|
    lt (sI h 71 0 x1 (gI h 12 0 31)) fun h1 =>
    bd (f_X12_token h1) fun v2 h3 =>
    bd (f_X12_numeral 0 9 h3) fun v4 h5 =>
    ck (0 ≤ x1 ∧ x1 < 18) <|
    lt (sI h5 72 0 x1 v4) fun h6 =>
    ck (0 ≤ x1 ∧ x1 < 18) <|
    lt (sI h6 78 0 x1 0) fun h7 =>
    if x2 = 0 then (
      rec 3 [x1] h7
    ) else (
      if (gI h7 12 0 32) = 0 then (
        bd (f_X12_isWord 12 h7) fun v8 h9 =>
        if v8 = 0 then (
          bd (f_X12_wrong 1 h9) fun v10 h11 =>
          rec 2 [x1] h11
        ) else (
          rec 2 [x1] h9
        )
      ) else (
        rec 2 [x1] h7
      )
    )
  ) else (
    some (0, h)
  )
noncomputable def b_X12_mouthLine_2 (rec : Rk) (x1 : Int) (h : Hp) : Option (Int × Hp) :=
  bd (f_X12_goOn h) fun v1 h2 =>
  bd (f_X12_numeral 1 99 h2) fun v3 h4 =>
  ck (0 ≤ x1 ∧ x1 < 18) <|
  lt (sI h4 78 0 x1 v3) fun h5 =>
  rec 3 [x1] h5
noncomputable def b_X12_mouthLine_3 (rec : Rk) (x1 : Int) (h : Hp) : Option (Int × Hp) :=
  ck (0 ≤ x1 ∧ x1 < 18) <|
  lt (sI h 73 0 x1 0) fun h1 =>
  ck (0 ≤ x1 ∧ x1 < 18) <|
  lt (sI h1 74 0 x1 59) fun h2 =>
  ck (0 ≤ x1 ∧ x1 < 18) <|
  lt (sI h2 75 0 x1 99) fun h3 =>
  ck (0 ≤ x1 ∧ x1 < 18) <|
  lt (sI h3 76 0 x1 (-1)) fun h4 =>
  ck (0 ≤ x1 ∧ x1 < 18) <|
  lt (sI h4 77 0 x1 99) fun h5 =>
  rec 4 [x1, 0] h5
noncomputable def b_X12_mouthLine_4 (rec : Rk) (x1 x3 : Int) (h : Hp) : Option (Int × Hp) :=
  if (gI h 12 0 32) = 0 then (
    if (gI h 12 0 30) = 0 then (
      if (gI h 12 0 31) < 13 then (
        rec 7 [x1] h
      ) else (
        if 16 < (gI h 12 0 31) then (
          rec 7 [x1] h
        ) else (
          lt (gI h 12 0 31) fun z1 =>
          if (band (bshr x3 z1) 1) = 1 then (
            bd (f_X12_wrong 3 h) fun v2 h3 =>
            rec 5 [x1, x3, z1] h3
          ) else (
            rec 5 [x1, x3, z1] h
          )
        )
      )
    ) else (
      rec 7 [x1] h
    )
  ) else (
    rec 7 [x1] h
  )
noncomputable def b_X12_mouthLine_5 (rec : Rk) (x1 x3 x4 : Int) (h : Hp) : Option (Int × Hp) :=
  lt (bor x3 (bshl 1 x4)) fun z1 =>
  bd (f_X12_goOn h) fun v2 h3 =>
  if x4 = 13 then (
    ck (0 ≤ x1 ∧ x1 < 18) <|
    bd (f_X12_numeral 0 (gI h3 74 0 x1) h3) fun v4 h5 =>
    ck (0 ≤ x1 ∧ x1 < 18) <|
    lt (sI h5 73 0 x1 v4) fun h6 =>
    rec 6 [x1, z1] h6
  ) else (
  if x4 = 14 then (
    ck (0 ≤ x1 ∧ x1 < 18) <|
    bd (f_X12_numeral (gI h3 73 0 x1) 59 h3) fun v7 h8 =>
    ck (0 ≤ x1 ∧ x1 < 18) <|
    lt (sI h8 74 0 x1 v7) fun h9 =>
    rec 6 [x1, z1] h9
  ) else (
  if x4 = 15 then (
    bd (f_X12_numeral 0 59 h3) fun v10 h11 =>
    ck (0 ≤ x1 ∧ x1 < 18) <|
    lt (sI h11 75 0 x1 v10) fun h12 =>
    ck (0 ≤ x1 ∧ x1 < 18) <|
    bd (f_X12_numeral (gI h12 75 0 x1) 59 h12) fun v13 h14 =>
    ck (0 ≤ x1 ∧ x1 < 18) <|
    lt (sI h14 76 0 x1 v13) fun h15 =>
    rec 6 [x1, z1] h15
  ) else (
  bd (f_X12_numeral 1 99 h3) fun v16 h17 =>
  ck (0 ≤ x1 ∧ x1 < 18) <|
  lt (sI h17 77 0 x1 v16) fun h18 =>
  rec 6 [x1, z1] h18
  )
  )
  )
noncomputable def b_X12_mouthLine_6 (rec : Rk) (x1 x3 : Int) (h : Hp) : Option (Int × Hp) :=
  rec 4 [x1, x3] h
noncomputable def b_X12_mouthLine_7 (rec : Rk) (x1 : Int) (h : Hp) : Option (Int × Hp) :=
  bd (f_X12_fresher 14 h) fun v1 h2 =>
  ck (0 ≤ x1 ∧ x1 < 18) <|
  lt (sI h2 79 0 x1 v1) fun h3 =>
  bd (f_X12_expression h3) fun v4 h5 =>
  bd (f_X12_fresher 14 h5) fun v6 h7 =>
  ck (0 ≤ x1 ∧ x1 < 18) <|
  lt (sI h7 80 0 x1 v6) fun h8 =>
  some (0, h8)
noncomputable def g_X12_mouthLine (n : Nat) : Rk := Nat.rec (motive := fun _ => Rk) (fun _ _ _ => none) (fun _ rec k l h => if k = 0 then b_X12_mouthLine_0 rec (l.getD 0 0) (l.getD 1 0) h else if k = 1 then b_X12_mouthLine_1 rec (l.getD 0 0) (l.getD 1 0) h else if k = 2 then b_X12_mouthLine_2 rec (l.getD 0 0) h else if k = 3 then b_X12_mouthLine_3 rec (l.getD 0 0) h else if k = 4 then b_X12_mouthLine_4 rec (l.getD 0 0) (l.getD 1 0) h else if k = 5 then b_X12_mouthLine_5 rec (l.getD 0 0) (l.getD 1 0) (l.getD 2 0) h else if k = 6 then b_X12_mouthLine_6 rec (l.getD 0 0) (l.getD 1 0) h else if k = 7 then b_X12_mouthLine_7 rec (l.getD 0 0) h else none) n
noncomputable def f_X12_mouthLine (x1 x2 : Int) (h : Hp) : Option (Int × Hp) := g_X12_mouthLine FU 0 [x1, x2] h
set_option maxHeartbeats 4000000 in
set_option maxRecDepth 100000 in
theorem t_X12_mouthLine_0 (E : xE) (d : Nat) (rec : Rk) (r : Int × Hp) (hr_33 : ∀ (x1 x2 : Int) (h : Hp), Lay h → rec 1 [x1, x2] h = some r → X E mX12_mouthLine (d + 1008) (0, 0) (0, 0) 33 [some (xr 12 0), some (xi x1), some (xi x2), none, none] [] h (PoV r)) (x1 x2 : Int) (h : Hp) (hL : Lay h) (hF : b_X12_mouthLine_0 rec x1 x2 h = some r) : X E mX12_mouthLine (d + 1008) (0, 0) (0, 0) 0 [some (xr 12 0), some (xi x1), some (xi x2), none, none] [] h (PoV r) := by
  unfold b_X12_mouthLine_0 at hF
  refine x_aload_n (i := 0) (b := 1) dX12_mouthLine_0 rfl rfl rfl ?_
  refine x_getI (v := gI h 12 0 30) (b := 4) fk_X12_213 dX12_mouthLine_1 (by decide) rfl rfl ?_
  refine x_iconst (n := 1) (b := 5) dX12_mouthLine_4 (by decide) rfl ?_
  refine x_icmp_eq (tgt := 16) (b := 8) dX12_mouthLine_5 (by decide) rfl (fun hc => ?_) (fun hc => ?_)
  · replace hF := br_T hc hF
    refine x_aload_n (i := 0) (b := 17) dX12_mouthLine_16 rfl rfl rfl ?_
    refine x_aload_n (i := 0) (b := 18) dX12_mouthLine_17 rfl rfl rfl ?_
    refine x_getI (v := gI h 12 0 31) (b := 21) fk_X12_223 dX12_mouthLine_18 (by decide) rfl rfl ?_
    obtain ⟨v1, h2, hq, hF⟩ := bd_e hF
    refine x_callV (as := [xi (gI h 12 0 31)]) (rest := []) (b := 24) (c_X12_mouthNamed (d + 1005) (gI h 12 0 31) h _ hL hq) dX12_mouthLine_21 cw_X12_318 ⟨_, _, rfl, Nat.le_of_ble_eq_true rfl⟩ rfl rfl (Nat.le_of_ble_eq_true rfl) ⟨Nat.le_refl _, Nat.le_refl _⟩ rfl (fun rv hh hp _ => ?_)
    obtain ⟨rfl, rfl, hL⟩ := hp
    refine x_iconst (n := (-1)) (b := 25) dX12_mouthLine_24 (by decide) rfl ?_
    refine x_icmp_eq (tgt := 33) (b := 28) dX12_mouthLine_25 (by decide) rfl (fun hc => ?_) (fun hc => ?_)
    · replace hF := br_T hc hF
      exact x_dp (ls2 := [some (xr 12 0), some (xi x1), some (xi x2), none, none]) ⟨rfl, rfl, rfl, trivial⟩ (hr_33 x1 x2 h2 hL hF)
    · replace hF := br_F hc hF
      refine x_aload_n (i := 0) (b := 29) dX12_mouthLine_28 rfl rfl rfl ?_
      refine x_iconst (n := 3) (b := 30) dX12_mouthLine_29 (by decide) rfl ?_
      obtain ⟨v3, h4, hq, hF⟩ := bd_e hF
      refine x_callV (as := [xi 3]) (rest := []) (b := 33) (c_X12_wrong (d + 1006) 3 h2 _ hL hq) dX12_mouthLine_30 cw_X12_256 ⟨_, _, rfl, Nat.le_of_ble_eq_true rfl⟩ rfl rfl (Nat.le_of_ble_eq_true rfl) ⟨Nat.le_refl _, Nat.le_refl _⟩ rfl (fun rv hh hp _ => ?_)
      obtain ⟨rfl, rfl, hL⟩ := hp
      exact x_dp (ls2 := [some (xr 12 0), some (xi x1), some (xi x2), none, none]) ⟨rfl, rfl, rfl, trivial⟩ (hr_33 x1 x2 h4 hL hF)
  · replace hF := br_F hc hF
    refine x_aload_n (i := 0) (b := 9) dX12_mouthLine_8 rfl rfl rfl ?_
    refine x_iconst (n := 1) (b := 10) dX12_mouthLine_9 (by decide) rfl ?_
    obtain ⟨v5, h6, hq, hF⟩ := bd_e hF
    refine x_callV (as := [xi 1]) (rest := []) (b := 13) (c_X12_wrong (d + 1006) 1 h _ hL hq) dX12_mouthLine_10 cw_X12_256 ⟨_, _, rfl, Nat.le_of_ble_eq_true rfl⟩ rfl rfl (Nat.le_of_ble_eq_true rfl) ⟨Nat.le_refl _, Nat.le_refl _⟩ rfl (fun rv hh hp _ => ?_)
    obtain ⟨rfl, rfl, hL⟩ := hp
    refine x_goto (tgt := 33) dX12_mouthLine_13 (by decide) ?_
    exact x_dp (ls2 := [some (xr 12 0), some (xi x1), some (xi x2), none, none]) ⟨rfl, rfl, rfl, trivial⟩ (hr_33 x1 x2 h6 hL hF)
set_option maxHeartbeats 4000000 in
set_option maxRecDepth 100000 in
theorem t_X12_mouthLine_1 (E : xE) (d : Nat) (rec : Rk) (r : Int × Hp) (hr_100 : ∀ (x1 : Int) (h : Hp), Lay h → rec 2 [x1] h = some r → X E mX12_mouthLine (d + 1008) (0, 0) (0, 0) 100 [some (xr 12 0), some (xi x1), none, none, none] [] h (PoV r)) (hr_117 : ∀ (x1 : Int) (h : Hp), Lay h → rec 3 [x1] h = some r → X E mX12_mouthLine (d + 1008) (0, 0) (0, 0) 117 [some (xr 12 0), some (xi x1), none, none, none] [] h (PoV r)) (x1 x2 : Int) (h : Hp) (hL : Lay h) (hF : b_X12_mouthLine_1 rec x1 x2 h = some r) : X E mX12_mouthLine (d + 1008) (0, 0) (0, 0) 33 [some (xr 12 0), some (xi x1), some (xi x2), none, none] [] h (PoV r) := by
  unfold b_X12_mouthLine_1 at hF
  refine x_aload_n (i := 0) (b := 34) dX12_mouthLine_33 rfl rfl rfl ?_
  refine x_getI (v := gI h 12 0 32) (b := 37) fk_X12_247 dX12_mouthLine_34 (by decide) rfl rfl ?_
  refine x_if_eq (tgt := 41) (b := 40) dX12_mouthLine_37 (by decide) rfl (fun hc => ?_) (fun hc => ?_)
  · replace hF := br_T hc hF
    refine x_aload_n (i := 0) (b := 42) dX12_mouthLine_41 rfl rfl rfl ?_
    refine x_getL (j := 0) (t := (71, 0, true)) (b := 45) fk_X12_44 dX12_mouthLine_42 rfl hL rfl rfl rfl ?_
    refine x_iload_n (i := 1) (b := 46) dX12_mouthLine_45 rfl rfl rfl ?_
    refine x_aload_n (i := 0) (b := 47) dX12_mouthLine_46 rfl rfl rfl ?_
    refine x_getI (v := gI h 12 0 31) (b := 50) fk_X12_223 dX12_mouthLine_47 (by decide) rfl rfl ?_
    obtain ⟨hs, hF⟩ := ck_e hF
    have hs1 := hs
    refine x_iast (b := 51) ak_71 dX12_mouthLine_50 hs1 rfl ?_
    obtain ⟨h1, e_h1, hF⟩ := lt_e hF
    refine x_hp (h2 := h1) e_h1 ?_
    replace hL : Lay h1 := by rw [← e_h1]; exact hL
    refine x_aload_n (i := 0) (b := 52) dX12_mouthLine_51 rfl rfl rfl ?_
    obtain ⟨v2, h3, hq, hF⟩ := bd_e hF
    refine x_callV (as := []) (rest := []) (b := 55) (c_X12_token (d + 1001) h1 _ hL hq) dX12_mouthLine_52 cw_X12_253 ⟨_, _, rfl, Nat.le_of_ble_eq_true rfl⟩ rfl rfl (Nat.le_of_ble_eq_true rfl) ⟨Nat.le_refl _, Nat.le_refl _⟩ rfl (fun rv hh hp _ => ?_)
    obtain ⟨rfl, rfl, hL⟩ := hp
    refine x_aload_n (i := 0) (b := 56) dX12_mouthLine_55 rfl rfl rfl ?_
    refine x_getL (j := 0) (t := (72, 0, true)) (b := 59) fk_X12_47 dX12_mouthLine_56 rfl hL rfl rfl rfl ?_
    refine x_iload_n (i := 1) (b := 60) dX12_mouthLine_59 rfl rfl rfl ?_
    refine x_aload_n (i := 0) (b := 61) dX12_mouthLine_60 rfl rfl rfl ?_
    refine x_iconst (n := 0) (b := 62) dX12_mouthLine_61 (by decide) rfl ?_
    refine x_bipush (n := 9) (b := 64) dX12_mouthLine_62 (by decide) rfl ?_
    obtain ⟨v4, h5, hq, hF⟩ := bd_e hF
    refine x_callV (as := [xi 0, xi 9]) (rest := [xi x1, xr 72 0]) (b := 67) (c_X12_numeral (d + 999) 0 9 h3 _ hL hq) dX12_mouthLine_64 cw_X12_270 ⟨_, _, rfl, Nat.le_of_ble_eq_true rfl⟩ rfl rfl (Nat.le_of_ble_eq_true rfl) ⟨Nat.le_refl _, Nat.le_refl _⟩ rfl (fun rv hh hp _ => ?_)
    obtain ⟨rfl, rfl, hL⟩ := hp
    obtain ⟨hs, hF⟩ := ck_e hF
    have hs1 := hs
    refine x_iast (b := 68) ak_72 dX12_mouthLine_67 hs1 rfl ?_
    obtain ⟨h6, e_h6, hF⟩ := lt_e hF
    refine x_hp (h2 := h6) e_h6 ?_
    replace hL : Lay h6 := by rw [← e_h6]; exact hL
    refine x_aload_n (i := 0) (b := 69) dX12_mouthLine_68 rfl rfl rfl ?_
    refine x_getL (j := 0) (t := (78, 0, true)) (b := 72) fk_X12_65 dX12_mouthLine_69 rfl hL rfl rfl rfl ?_
    refine x_iload_n (i := 1) (b := 73) dX12_mouthLine_72 rfl rfl rfl ?_
    refine x_iconst (n := 0) (b := 74) dX12_mouthLine_73 (by decide) rfl ?_
    obtain ⟨hs, hF⟩ := ck_e hF
    have hs1 := hs
    refine x_iast (b := 75) ak_78 dX12_mouthLine_74 hs1 rfl ?_
    obtain ⟨h7, e_h7, hF⟩ := lt_e hF
    refine x_hp (h2 := h7) e_h7 ?_
    replace hL : Lay h7 := by rw [← e_h7]; exact hL
    refine x_iload_n (i := 2) (b := 76) dX12_mouthLine_75 rfl rfl rfl ?_
    refine x_if_eq (tgt := 117) (b := 79) dX12_mouthLine_76 (by decide) rfl (fun hc => ?_) (fun hc => ?_)
    · replace hF := br_T hc hF
      exact x_dp (ls2 := [some (xr 12 0), some (xi x1), none, none, none]) ⟨rfl, rfl, trivial⟩ (hr_117 x1 h7 hL hF)
    · replace hF := br_F hc hF
      refine x_aload_n (i := 0) (b := 80) dX12_mouthLine_79 rfl rfl rfl ?_
      refine x_getI (v := gI h7 12 0 32) (b := 83) fk_X12_247 dX12_mouthLine_80 (by decide) rfl rfl ?_
      refine x_if_ne (tgt := 100) (b := 86) dX12_mouthLine_83 (by decide) rfl (fun hc => ?_) (fun hc => ?_)
      · replace hF := br_F hc hF
        exact x_dp (ls2 := [some (xr 12 0), some (xi x1), none, none, none]) ⟨rfl, rfl, trivial⟩ (hr_100 x1 h7 hL hF)
      · replace hF := br_T hc hF
        refine x_aload_n (i := 0) (b := 87) dX12_mouthLine_86 rfl rfl rfl ?_
        refine x_bipush (n := 12) (b := 89) dX12_mouthLine_87 (by decide) rfl ?_
        obtain ⟨v8, h9, hq, hF⟩ := bd_e hF
        refine x_callV (as := [xi 12]) (rest := []) (b := 92) (c_X12_isWord (d + 1006) 12 h7 _ hL hq) dX12_mouthLine_89 cw_X12_321 ⟨_, _, rfl, Nat.le_of_ble_eq_true rfl⟩ rfl rfl (Nat.le_of_ble_eq_true rfl) ⟨Nat.le_refl _, Nat.le_refl _⟩ rfl (fun rv hh hp _ => ?_)
        obtain ⟨rfl, rfl, hL⟩ := hp
        refine x_if_ne (tgt := 100) (b := 95) dX12_mouthLine_92 (by decide) rfl (fun hc => ?_) (fun hc => ?_)
        · replace hF := br_F hc hF
          exact x_dp (ls2 := [some (xr 12 0), some (xi x1), none, none, none]) ⟨rfl, rfl, trivial⟩ (hr_100 x1 h9 hL hF)
        · replace hF := br_T hc hF
          refine x_aload_n (i := 0) (b := 96) dX12_mouthLine_95 rfl rfl rfl ?_
          refine x_iconst (n := 1) (b := 97) dX12_mouthLine_96 (by decide) rfl ?_
          obtain ⟨v10, h11, hq, hF⟩ := bd_e hF
          refine x_callV (as := [xi 1]) (rest := []) (b := 100) (c_X12_wrong (d + 1006) 1 h9 _ hL hq) dX12_mouthLine_97 cw_X12_256 ⟨_, _, rfl, Nat.le_of_ble_eq_true rfl⟩ rfl rfl (Nat.le_of_ble_eq_true rfl) ⟨Nat.le_refl _, Nat.le_refl _⟩ rfl (fun rv hh hp _ => ?_)
          obtain ⟨rfl, rfl, hL⟩ := hp
          exact x_dp (ls2 := [some (xr 12 0), some (xi x1), none, none, none]) ⟨rfl, rfl, trivial⟩ (hr_100 x1 h11 hL hF)
  · replace hF := br_F hc hF
    refine x_return dX12_mouthLine_40 rfl ⟨Nat.le_refl _, Nat.le_refl _⟩ ?_
    cases hF
    exact ⟨rfl, rfl, hL⟩
set_option maxHeartbeats 4000000 in
set_option maxRecDepth 100000 in
theorem t_X12_mouthLine_2 (E : xE) (d : Nat) (rec : Rk) (r : Int × Hp) (hr_117 : ∀ (x1 : Int) (h : Hp), Lay h → rec 3 [x1] h = some r → X E mX12_mouthLine (d + 1008) (0, 0) (0, 0) 117 [some (xr 12 0), some (xi x1), none, none, none] [] h (PoV r)) (x1 : Int) (h : Hp) (hL : Lay h) (hF : b_X12_mouthLine_2 rec x1 h = some r) : X E mX12_mouthLine (d + 1008) (0, 0) (0, 0) 100 [some (xr 12 0), some (xi x1), none, none, none] [] h (PoV r) := by
  unfold b_X12_mouthLine_2 at hF
  refine x_aload_n (i := 0) (b := 101) dX12_mouthLine_100 rfl rfl rfl ?_
  obtain ⟨v1, h2, hq, hF⟩ := bd_e hF
  refine x_callV (as := []) (rest := []) (b := 104) (c_X12_goOn (d + 1000) h _ hL hq) dX12_mouthLine_101 cw_X12_263 ⟨_, _, rfl, Nat.le_of_ble_eq_true rfl⟩ rfl rfl (Nat.le_of_ble_eq_true rfl) ⟨Nat.le_refl _, Nat.le_refl _⟩ rfl (fun rv hh hp _ => ?_)
  obtain ⟨rfl, rfl, hL⟩ := hp
  refine x_aload_n (i := 0) (b := 105) dX12_mouthLine_104 rfl rfl rfl ?_
  refine x_getL (j := 0) (t := (78, 0, true)) (b := 108) fk_X12_65 dX12_mouthLine_105 rfl hL rfl rfl rfl ?_
  refine x_iload_n (i := 1) (b := 109) dX12_mouthLine_108 rfl rfl rfl ?_
  refine x_aload_n (i := 0) (b := 110) dX12_mouthLine_109 rfl rfl rfl ?_
  refine x_iconst (n := 1) (b := 111) dX12_mouthLine_110 (by decide) rfl ?_
  refine x_bipush (n := 99) (b := 113) dX12_mouthLine_111 (by decide) rfl ?_
  obtain ⟨v3, h4, hq, hF⟩ := bd_e hF
  refine x_callV (as := [xi 1, xi 99]) (rest := [xi x1, xr 78 0]) (b := 116) (c_X12_numeral (d + 999) 1 99 h2 _ hL hq) dX12_mouthLine_113 cw_X12_270 ⟨_, _, rfl, Nat.le_of_ble_eq_true rfl⟩ rfl rfl (Nat.le_of_ble_eq_true rfl) ⟨Nat.le_refl _, Nat.le_refl _⟩ rfl (fun rv hh hp _ => ?_)
  obtain ⟨rfl, rfl, hL⟩ := hp
  obtain ⟨hs, hF⟩ := ck_e hF
  have hs1 := hs
  refine x_iast (b := 117) ak_78 dX12_mouthLine_116 hs1 rfl ?_
  obtain ⟨h5, e_h5, hF⟩ := lt_e hF
  refine x_hp (h2 := h5) e_h5 ?_
  replace hL : Lay h5 := by rw [← e_h5]; exact hL
  exact x_dp (ls2 := [some (xr 12 0), some (xi x1), none, none, none]) ⟨rfl, rfl, trivial⟩ (hr_117 x1 h5 hL hF)
set_option maxHeartbeats 4000000 in
set_option maxRecDepth 100000 in
theorem t_X12_mouthLine_3 (E : xE) (d : Nat) (rec : Rk) (r : Int × Hp) (hr_157 : ∀ (x1 x3 : Int) (h : Hp), Lay h → rec 4 [x1, x3] h = some r → X E mX12_mouthLine (d + 1008) (0, 0) (0, 0) 157 [some (xr 12 0), some (xi x1), none, some (xi x3), none] [] h (PoV r)) (x1 : Int) (h : Hp) (hL : Lay h) (hF : b_X12_mouthLine_3 rec x1 h = some r) : X E mX12_mouthLine (d + 1008) (0, 0) (0, 0) 117 [some (xr 12 0), some (xi x1), none, none, none] [] h (PoV r) := by
  unfold b_X12_mouthLine_3 at hF
  refine x_aload_n (i := 0) (b := 118) dX12_mouthLine_117 rfl rfl rfl ?_
  refine x_getL (j := 0) (t := (73, 0, true)) (b := 121) fk_X12_50 dX12_mouthLine_118 rfl hL rfl rfl rfl ?_
  refine x_iload_n (i := 1) (b := 122) dX12_mouthLine_121 rfl rfl rfl ?_
  refine x_iconst (n := 0) (b := 123) dX12_mouthLine_122 (by decide) rfl ?_
  obtain ⟨hs, hF⟩ := ck_e hF
  have hs1 := hs
  refine x_iast (b := 124) ak_73 dX12_mouthLine_123 hs1 rfl ?_
  obtain ⟨h1, e_h1, hF⟩ := lt_e hF
  refine x_hp (h2 := h1) e_h1 ?_
  replace hL : Lay h1 := by rw [← e_h1]; exact hL
  refine x_aload_n (i := 0) (b := 125) dX12_mouthLine_124 rfl rfl rfl ?_
  refine x_getL (j := 0) (t := (74, 0, true)) (b := 128) fk_X12_53 dX12_mouthLine_125 rfl hL rfl rfl rfl ?_
  refine x_iload_n (i := 1) (b := 129) dX12_mouthLine_128 rfl rfl rfl ?_
  refine x_bipush (n := 59) (b := 131) dX12_mouthLine_129 (by decide) rfl ?_
  obtain ⟨hs, hF⟩ := ck_e hF
  have hs1 := hs
  refine x_iast (b := 132) ak_74 dX12_mouthLine_131 hs1 rfl ?_
  obtain ⟨h2, e_h2, hF⟩ := lt_e hF
  refine x_hp (h2 := h2) e_h2 ?_
  replace hL : Lay h2 := by rw [← e_h2]; exact hL
  refine x_aload_n (i := 0) (b := 133) dX12_mouthLine_132 rfl rfl rfl ?_
  refine x_getL (j := 0) (t := (75, 0, true)) (b := 136) fk_X12_56 dX12_mouthLine_133 rfl hL rfl rfl rfl ?_
  refine x_iload_n (i := 1) (b := 137) dX12_mouthLine_136 rfl rfl rfl ?_
  refine x_bipush (n := 99) (b := 139) dX12_mouthLine_137 (by decide) rfl ?_
  obtain ⟨hs, hF⟩ := ck_e hF
  have hs1 := hs
  refine x_iast (b := 140) ak_75 dX12_mouthLine_139 hs1 rfl ?_
  obtain ⟨h3, e_h3, hF⟩ := lt_e hF
  refine x_hp (h2 := h3) e_h3 ?_
  replace hL : Lay h3 := by rw [← e_h3]; exact hL
  refine x_aload_n (i := 0) (b := 141) dX12_mouthLine_140 rfl rfl rfl ?_
  refine x_getL (j := 0) (t := (76, 0, true)) (b := 144) fk_X12_59 dX12_mouthLine_141 rfl hL rfl rfl rfl ?_
  refine x_iload_n (i := 1) (b := 145) dX12_mouthLine_144 rfl rfl rfl ?_
  refine x_iconst (n := (-1)) (b := 146) dX12_mouthLine_145 (by decide) rfl ?_
  obtain ⟨hs, hF⟩ := ck_e hF
  have hs1 := hs
  refine x_iast (b := 147) ak_76 dX12_mouthLine_146 hs1 rfl ?_
  obtain ⟨h4, e_h4, hF⟩ := lt_e hF
  refine x_hp (h2 := h4) e_h4 ?_
  replace hL : Lay h4 := by rw [← e_h4]; exact hL
  refine x_aload_n (i := 0) (b := 148) dX12_mouthLine_147 rfl rfl rfl ?_
  refine x_getL (j := 0) (t := (77, 0, true)) (b := 151) fk_X12_62 dX12_mouthLine_148 rfl hL rfl rfl rfl ?_
  refine x_iload_n (i := 1) (b := 152) dX12_mouthLine_151 rfl rfl rfl ?_
  refine x_bipush (n := 99) (b := 154) dX12_mouthLine_152 (by decide) rfl ?_
  obtain ⟨hs, hF⟩ := ck_e hF
  have hs1 := hs
  refine x_iast (b := 155) ak_77 dX12_mouthLine_154 hs1 rfl ?_
  obtain ⟨h5, e_h5, hF⟩ := lt_e hF
  refine x_hp (h2 := h5) e_h5 ?_
  replace hL : Lay h5 := by rw [← e_h5]; exact hL
  refine x_iconst (n := 0) (b := 156) dX12_mouthLine_155 (by decide) rfl ?_
  refine x_istore_n (i := 3) (b := 157) (ls2 := [some (xr 12 0), some (xi x1), none, some (xi 0), none]) dX12_mouthLine_156 rfl (Nat.le_of_ble_eq_true rfl) rfl rfl ?_
  exact x_dp (ls2 := [some (xr 12 0), some (xi x1), none, some (xi 0), none]) ⟨rfl, rfl, rfl, trivial⟩ (hr_157 x1 0 h5 hL hF)
set_option maxHeartbeats 4000000 in
set_option maxRecDepth 100000 in
theorem t_X12_mouthLine_4 (E : xE) (d : Nat) (rec : Rk) (r : Int × Hp) (hr_210 : ∀ (x1 x3 x4 : Int) (h : Hp), Lay h → rec 5 [x1, x3, x4] h = some r → X E mX12_mouthLine (d + 1008) (0, 0) (0, 0) 210 [some (xr 12 0), some (xi x1), none, some (xi x3), some (xi x4)] [] h (PoV r)) (hr_339 : ∀ (x1 : Int) (h : Hp), Lay h → rec 7 [x1] h = some r → X E mX12_mouthLine (d + 1008) (0, 0) (0, 0) 339 [some (xr 12 0), some (xi x1), none, none, none] [] h (PoV r)) (x1 x3 : Int) (h : Hp) (hL : Lay h) (hF : b_X12_mouthLine_4 rec x1 x3 h = some r) : X E mX12_mouthLine (d + 1008) (0, 0) (0, 0) 157 [some (xr 12 0), some (xi x1), none, some (xi x3), none] [] h (PoV r) := by
  unfold b_X12_mouthLine_4 at hF
  refine x_aload_n (i := 0) (b := 158) dX12_mouthLine_157 rfl rfl rfl ?_
  refine x_getI (v := gI h 12 0 32) (b := 161) fk_X12_247 dX12_mouthLine_158 (by decide) rfl rfl ?_
  refine x_if_ne (tgt := 339) (b := 164) dX12_mouthLine_161 (by decide) rfl (fun hc => ?_) (fun hc => ?_)
  · replace hF := br_F hc hF
    exact x_dp (ls2 := [some (xr 12 0), some (xi x1), none, none, none]) ⟨rfl, rfl, trivial⟩ (hr_339 x1 h hL hF)
  · replace hF := br_T hc hF
    refine x_aload_n (i := 0) (b := 165) dX12_mouthLine_164 rfl rfl rfl ?_
    refine x_getI (v := gI h 12 0 30) (b := 168) fk_X12_213 dX12_mouthLine_165 (by decide) rfl rfl ?_
    refine x_if_ne (tgt := 339) (b := 171) dX12_mouthLine_168 (by decide) rfl (fun hc => ?_) (fun hc => ?_)
    · replace hF := br_F hc hF
      exact x_dp (ls2 := [some (xr 12 0), some (xi x1), none, none, none]) ⟨rfl, rfl, trivial⟩ (hr_339 x1 h hL hF)
    · replace hF := br_T hc hF
      refine x_aload_n (i := 0) (b := 172) dX12_mouthLine_171 rfl rfl rfl ?_
      refine x_getI (v := gI h 12 0 31) (b := 175) fk_X12_223 dX12_mouthLine_172 (by decide) rfl rfl ?_
      refine x_bipush (n := 13) (b := 177) dX12_mouthLine_175 (by decide) rfl ?_
      refine x_icmp_lt (tgt := 339) (b := 180) dX12_mouthLine_177 (by decide) rfl (fun hc => ?_) (fun hc => ?_)
      · replace hF := br_T hc hF
        exact x_dp (ls2 := [some (xr 12 0), some (xi x1), none, none, none]) ⟨rfl, rfl, trivial⟩ (hr_339 x1 h hL hF)
      · replace hF := br_F hc hF
        refine x_aload_n (i := 0) (b := 181) dX12_mouthLine_180 rfl rfl rfl ?_
        refine x_getI (v := gI h 12 0 31) (b := 184) fk_X12_223 dX12_mouthLine_181 (by decide) rfl rfl ?_
        refine x_bipush (n := 16) (b := 186) dX12_mouthLine_184 (by decide) rfl ?_
        refine x_icmp_gt (tgt := 339) (b := 189) dX12_mouthLine_186 (by decide) rfl (fun hc => ?_) (fun hc => ?_)
        · replace hF := br_T hc hF
          exact x_dp (ls2 := [some (xr 12 0), some (xi x1), none, none, none]) ⟨rfl, rfl, trivial⟩ (hr_339 x1 h hL hF)
        · replace hF := br_F hc hF
          refine x_aload_n (i := 0) (b := 190) dX12_mouthLine_189 rfl rfl rfl ?_
          refine x_getI (v := gI h 12 0 31) (b := 193) fk_X12_223 dX12_mouthLine_190 (by decide) rfl rfl ?_
          obtain ⟨z1, e_z1, hF⟩ := lt_e hF
          refine x_eq (y := z1) e_z1 ?_
          refine x_istore (i := 4) (b := 195) (ls2 := [some (xr 12 0), some (xi x1), none, some (xi x3), some (xi z1)]) dX12_mouthLine_193 (Nat.le_of_ble_eq_true rfl) rfl rfl ?_
          refine x_iload_n (i := 3) (b := 196) dX12_mouthLine_195 rfl rfl rfl ?_
          refine x_iload (i := 4) (b := 198) dX12_mouthLine_196 rfl rfl ?_
          refine x_ishr (b := 199) dX12_mouthLine_198 rfl ?_
          refine x_iconst (n := 1) (b := 200) dX12_mouthLine_199 (by decide) rfl ?_
          refine x_iand (b := 201) dX12_mouthLine_200 rfl ?_
          refine x_iconst (n := 1) (b := 202) dX12_mouthLine_201 (by decide) rfl ?_
          refine x_icmp_ne (tgt := 210) (b := 205) dX12_mouthLine_202 (by decide) rfl (fun hc => ?_) (fun hc => ?_)
          · replace hF := br_F hc hF
            exact x_dp (ls2 := [some (xr 12 0), some (xi x1), none, some (xi x3), some (xi z1)]) ⟨rfl, rfl, rfl, rfl, trivial⟩ (hr_210 x1 x3 z1 h hL hF)
          · replace hF := br_T hc hF
            refine x_aload_n (i := 0) (b := 206) dX12_mouthLine_205 rfl rfl rfl ?_
            refine x_iconst (n := 3) (b := 207) dX12_mouthLine_206 (by decide) rfl ?_
            obtain ⟨v2, h3, hq, hF⟩ := bd_e hF
            refine x_callV (as := [xi 3]) (rest := []) (b := 210) (c_X12_wrong (d + 1006) 3 h _ hL hq) dX12_mouthLine_207 cw_X12_256 ⟨_, _, rfl, Nat.le_of_ble_eq_true rfl⟩ rfl rfl (Nat.le_of_ble_eq_true rfl) ⟨Nat.le_refl _, Nat.le_refl _⟩ rfl (fun rv hh hp _ => ?_)
            obtain ⟨rfl, rfl, hL⟩ := hp
            exact x_dp (ls2 := [some (xr 12 0), some (xi x1), none, some (xi x3), some (xi z1)]) ⟨rfl, rfl, rfl, rfl, trivial⟩ (hr_210 x1 x3 z1 h3 hL hF)
set_option maxHeartbeats 4000000 in
set_option maxRecDepth 100000 in
theorem t_X12_mouthLine_5 (E : xE) (d : Nat) (rec : Rk) (r : Int × Hp) (hr_336 : ∀ (x1 x3 : Int) (h : Hp), Lay h → rec 6 [x1, x3] h = some r → X E mX12_mouthLine (d + 1008) (0, 0) (0, 0) 336 [some (xr 12 0), some (xi x1), none, some (xi x3), none] [] h (PoV r)) (x1 x3 x4 : Int) (h : Hp) (hL : Lay h) (hF : b_X12_mouthLine_5 rec x1 x3 x4 h = some r) : X E mX12_mouthLine (d + 1008) (0, 0) (0, 0) 210 [some (xr 12 0), some (xi x1), none, some (xi x3), some (xi x4)] [] h (PoV r) := by
  unfold b_X12_mouthLine_5 at hF
  refine x_iload_n (i := 3) (b := 211) dX12_mouthLine_210 rfl rfl rfl ?_
  refine x_iconst (n := 1) (b := 212) dX12_mouthLine_211 (by decide) rfl ?_
  refine x_iload (i := 4) (b := 214) dX12_mouthLine_212 rfl rfl ?_
  refine x_ishl (b := 215) dX12_mouthLine_214 rfl ?_
  refine x_ior (b := 216) dX12_mouthLine_215 rfl ?_
  obtain ⟨z1, e_z1, hF⟩ := lt_e hF
  refine x_eq (y := z1) e_z1 ?_
  refine x_istore_n (i := 3) (b := 217) (ls2 := [some (xr 12 0), some (xi x1), none, some (xi z1), some (xi x4)]) dX12_mouthLine_216 rfl (Nat.le_of_ble_eq_true rfl) rfl rfl ?_
  refine x_aload_n (i := 0) (b := 218) dX12_mouthLine_217 rfl rfl rfl ?_
  obtain ⟨v2, h3, hq, hF⟩ := bd_e hF
  refine x_callV (as := []) (rest := []) (b := 221) (c_X12_goOn (d + 1000) h _ hL hq) dX12_mouthLine_218 cw_X12_263 ⟨_, _, rfl, Nat.le_of_ble_eq_true rfl⟩ rfl rfl (Nat.le_of_ble_eq_true rfl) ⟨Nat.le_refl _, Nat.le_refl _⟩ rfl (fun rv hh hp _ => ?_)
  obtain ⟨rfl, rfl, hL⟩ := hp
  refine x_iload (i := 4) (b := 223) dX12_mouthLine_221 rfl rfl ?_
  by_cases hw223_13 : x4 = 13
  · replace hF := br_T hw223_13 hF
    refine x_tableIn (tgt := 248) dX12_mouthLine_223 13 hw223_13 ⟨by decide, by decide⟩ rfl (by decide) ?_
    refine x_aload_n (i := 0) (b := 249) dX12_mouthLine_248 rfl rfl rfl ?_
    refine x_getL (j := 0) (t := (73, 0, true)) (b := 252) fk_X12_50 dX12_mouthLine_249 rfl hL rfl rfl rfl ?_
    refine x_iload_n (i := 1) (b := 253) dX12_mouthLine_252 rfl rfl rfl ?_
    refine x_aload_n (i := 0) (b := 254) dX12_mouthLine_253 rfl rfl rfl ?_
    refine x_iconst (n := 0) (b := 255) dX12_mouthLine_254 (by decide) rfl ?_
    refine x_aload_n (i := 0) (b := 256) dX12_mouthLine_255 rfl rfl rfl ?_
    refine x_getL (j := 0) (t := (74, 0, true)) (b := 259) fk_X12_53 dX12_mouthLine_256 rfl hL rfl rfl rfl ?_
    refine x_iload_n (i := 1) (b := 260) dX12_mouthLine_259 rfl rfl rfl ?_
    obtain ⟨hs, hF⟩ := ck_e hF
    refine x_iald (v := gI h3 74 0 x1) (b := 261) ak_74 dX12_mouthLine_260 hs rfl rfl ?_
    obtain ⟨v4, h5, hq, hF⟩ := bd_e hF
    refine x_callV (as := [xi 0, xi (gI h3 74 0 x1)]) (rest := [xi x1, xr 73 0]) (b := 264) (c_X12_numeral (d + 999) 0 (gI h3 74 0 x1) h3 _ hL hq) dX12_mouthLine_261 cw_X12_270 ⟨_, _, rfl, Nat.le_of_ble_eq_true rfl⟩ rfl rfl (Nat.le_of_ble_eq_true rfl) ⟨Nat.le_refl _, Nat.le_refl _⟩ rfl (fun rv hh hp _ => ?_)
    obtain ⟨rfl, rfl, hL⟩ := hp
    obtain ⟨hs, hF⟩ := ck_e hF
    have hs1 := hs
    refine x_iast (b := 265) ak_73 dX12_mouthLine_264 hs1 rfl ?_
    obtain ⟨h6, e_h6, hF⟩ := lt_e hF
    refine x_hp (h2 := h6) e_h6 ?_
    replace hL : Lay h6 := by rw [← e_h6]; exact hL
    refine x_goto (tgt := 336) dX12_mouthLine_265 (by decide) ?_
    exact x_dp (ls2 := [some (xr 12 0), some (xi x1), none, some (xi z1), none]) ⟨rfl, rfl, rfl, trivial⟩ (hr_336 x1 z1 h6 hL hF)
  replace hF := br_F hw223_13 hF
  by_cases hw223_14 : x4 = 14
  · replace hF := br_T hw223_14 hF
    refine x_tableIn (tgt := 268) dX12_mouthLine_223 14 hw223_14 ⟨by decide, by decide⟩ rfl (by decide) ?_
    refine x_aload_n (i := 0) (b := 269) dX12_mouthLine_268 rfl rfl rfl ?_
    refine x_getL (j := 0) (t := (74, 0, true)) (b := 272) fk_X12_53 dX12_mouthLine_269 rfl hL rfl rfl rfl ?_
    refine x_iload_n (i := 1) (b := 273) dX12_mouthLine_272 rfl rfl rfl ?_
    refine x_aload_n (i := 0) (b := 274) dX12_mouthLine_273 rfl rfl rfl ?_
    refine x_aload_n (i := 0) (b := 275) dX12_mouthLine_274 rfl rfl rfl ?_
    refine x_getL (j := 0) (t := (73, 0, true)) (b := 278) fk_X12_50 dX12_mouthLine_275 rfl hL rfl rfl rfl ?_
    refine x_iload_n (i := 1) (b := 279) dX12_mouthLine_278 rfl rfl rfl ?_
    obtain ⟨hs, hF⟩ := ck_e hF
    refine x_iald (v := gI h3 73 0 x1) (b := 280) ak_73 dX12_mouthLine_279 hs rfl rfl ?_
    refine x_bipush (n := 59) (b := 282) dX12_mouthLine_280 (by decide) rfl ?_
    obtain ⟨v7, h8, hq, hF⟩ := bd_e hF
    refine x_callV (as := [xi (gI h3 73 0 x1), xi 59]) (rest := [xi x1, xr 74 0]) (b := 285) (c_X12_numeral (d + 999) (gI h3 73 0 x1) 59 h3 _ hL hq) dX12_mouthLine_282 cw_X12_270 ⟨_, _, rfl, Nat.le_of_ble_eq_true rfl⟩ rfl rfl (Nat.le_of_ble_eq_true rfl) ⟨Nat.le_refl _, Nat.le_refl _⟩ rfl (fun rv hh hp _ => ?_)
    obtain ⟨rfl, rfl, hL⟩ := hp
    obtain ⟨hs, hF⟩ := ck_e hF
    have hs1 := hs
    refine x_iast (b := 286) ak_74 dX12_mouthLine_285 hs1 rfl ?_
    obtain ⟨h9, e_h9, hF⟩ := lt_e hF
    refine x_hp (h2 := h9) e_h9 ?_
    replace hL : Lay h9 := by rw [← e_h9]; exact hL
    refine x_goto (tgt := 336) dX12_mouthLine_286 (by decide) ?_
    exact x_dp (ls2 := [some (xr 12 0), some (xi x1), none, some (xi z1), none]) ⟨rfl, rfl, rfl, trivial⟩ (hr_336 x1 z1 h9 hL hF)
  replace hF := br_F hw223_14 hF
  by_cases hw223_15 : x4 = 15
  · replace hF := br_T hw223_15 hF
    refine x_tableIn (tgt := 289) dX12_mouthLine_223 15 hw223_15 ⟨by decide, by decide⟩ rfl (by decide) ?_
    refine x_aload_n (i := 0) (b := 290) dX12_mouthLine_289 rfl rfl rfl ?_
    refine x_getL (j := 0) (t := (75, 0, true)) (b := 293) fk_X12_56 dX12_mouthLine_290 rfl hL rfl rfl rfl ?_
    refine x_iload_n (i := 1) (b := 294) dX12_mouthLine_293 rfl rfl rfl ?_
    refine x_aload_n (i := 0) (b := 295) dX12_mouthLine_294 rfl rfl rfl ?_
    refine x_iconst (n := 0) (b := 296) dX12_mouthLine_295 (by decide) rfl ?_
    refine x_bipush (n := 59) (b := 298) dX12_mouthLine_296 (by decide) rfl ?_
    obtain ⟨v10, h11, hq, hF⟩ := bd_e hF
    refine x_callV (as := [xi 0, xi 59]) (rest := [xi x1, xr 75 0]) (b := 301) (c_X12_numeral (d + 999) 0 59 h3 _ hL hq) dX12_mouthLine_298 cw_X12_270 ⟨_, _, rfl, Nat.le_of_ble_eq_true rfl⟩ rfl rfl (Nat.le_of_ble_eq_true rfl) ⟨Nat.le_refl _, Nat.le_refl _⟩ rfl (fun rv hh hp _ => ?_)
    obtain ⟨rfl, rfl, hL⟩ := hp
    obtain ⟨hs, hF⟩ := ck_e hF
    have hs1 := hs
    refine x_iast (b := 302) ak_75 dX12_mouthLine_301 hs1 rfl ?_
    obtain ⟨h12, e_h12, hF⟩ := lt_e hF
    refine x_hp (h2 := h12) e_h12 ?_
    replace hL : Lay h12 := by rw [← e_h12]; exact hL
    refine x_aload_n (i := 0) (b := 303) dX12_mouthLine_302 rfl rfl rfl ?_
    refine x_getL (j := 0) (t := (76, 0, true)) (b := 306) fk_X12_59 dX12_mouthLine_303 rfl hL rfl rfl rfl ?_
    refine x_iload_n (i := 1) (b := 307) dX12_mouthLine_306 rfl rfl rfl ?_
    refine x_aload_n (i := 0) (b := 308) dX12_mouthLine_307 rfl rfl rfl ?_
    refine x_aload_n (i := 0) (b := 309) dX12_mouthLine_308 rfl rfl rfl ?_
    refine x_getL (j := 0) (t := (75, 0, true)) (b := 312) fk_X12_56 dX12_mouthLine_309 rfl hL rfl rfl rfl ?_
    refine x_iload_n (i := 1) (b := 313) dX12_mouthLine_312 rfl rfl rfl ?_
    obtain ⟨hs, hF⟩ := ck_e hF
    refine x_iald (v := gI h12 75 0 x1) (b := 314) ak_75 dX12_mouthLine_313 hs rfl rfl ?_
    refine x_bipush (n := 59) (b := 316) dX12_mouthLine_314 (by decide) rfl ?_
    obtain ⟨v13, h14, hq, hF⟩ := bd_e hF
    refine x_callV (as := [xi (gI h12 75 0 x1), xi 59]) (rest := [xi x1, xr 76 0]) (b := 319) (c_X12_numeral (d + 999) (gI h12 75 0 x1) 59 h12 _ hL hq) dX12_mouthLine_316 cw_X12_270 ⟨_, _, rfl, Nat.le_of_ble_eq_true rfl⟩ rfl rfl (Nat.le_of_ble_eq_true rfl) ⟨Nat.le_refl _, Nat.le_refl _⟩ rfl (fun rv hh hp _ => ?_)
    obtain ⟨rfl, rfl, hL⟩ := hp
    obtain ⟨hs, hF⟩ := ck_e hF
    have hs1 := hs
    refine x_iast (b := 320) ak_76 dX12_mouthLine_319 hs1 rfl ?_
    obtain ⟨h15, e_h15, hF⟩ := lt_e hF
    refine x_hp (h2 := h15) e_h15 ?_
    replace hL : Lay h15 := by rw [← e_h15]; exact hL
    refine x_goto (tgt := 336) dX12_mouthLine_320 (by decide) ?_
    exact x_dp (ls2 := [some (xr 12 0), some (xi x1), none, some (xi z1), none]) ⟨rfl, rfl, rfl, trivial⟩ (hr_336 x1 z1 h15 hL hF)
  replace hF := br_F hw223_15 hF
  refine x_tableOut (tgt := 323) dX12_mouthLine_223 (by omega) (by decide) ?_
  refine x_aload_n (i := 0) (b := 324) dX12_mouthLine_323 rfl rfl rfl ?_
  refine x_getL (j := 0) (t := (77, 0, true)) (b := 327) fk_X12_62 dX12_mouthLine_324 rfl hL rfl rfl rfl ?_
  refine x_iload_n (i := 1) (b := 328) dX12_mouthLine_327 rfl rfl rfl ?_
  refine x_aload_n (i := 0) (b := 329) dX12_mouthLine_328 rfl rfl rfl ?_
  refine x_iconst (n := 1) (b := 330) dX12_mouthLine_329 (by decide) rfl ?_
  refine x_bipush (n := 99) (b := 332) dX12_mouthLine_330 (by decide) rfl ?_
  obtain ⟨v16, h17, hq, hF⟩ := bd_e hF
  refine x_callV (as := [xi 1, xi 99]) (rest := [xi x1, xr 77 0]) (b := 335) (c_X12_numeral (d + 999) 1 99 h3 _ hL hq) dX12_mouthLine_332 cw_X12_270 ⟨_, _, rfl, Nat.le_of_ble_eq_true rfl⟩ rfl rfl (Nat.le_of_ble_eq_true rfl) ⟨Nat.le_refl _, Nat.le_refl _⟩ rfl (fun rv hh hp _ => ?_)
  obtain ⟨rfl, rfl, hL⟩ := hp
  obtain ⟨hs, hF⟩ := ck_e hF
  have hs1 := hs
  refine x_iast (b := 336) ak_77 dX12_mouthLine_335 hs1 rfl ?_
  obtain ⟨h18, e_h18, hF⟩ := lt_e hF
  refine x_hp (h2 := h18) e_h18 ?_
  replace hL : Lay h18 := by rw [← e_h18]; exact hL
  exact x_dp (ls2 := [some (xr 12 0), some (xi x1), none, some (xi z1), none]) ⟨rfl, rfl, rfl, trivial⟩ (hr_336 x1 z1 h18 hL hF)
set_option maxHeartbeats 4000000 in
set_option maxRecDepth 100000 in
theorem t_X12_mouthLine_6 (E : xE) (d : Nat) (rec : Rk) (r : Int × Hp) (hr_157 : ∀ (x1 x3 : Int) (h : Hp), Lay h → rec 4 [x1, x3] h = some r → X E mX12_mouthLine (d + 1008) (0, 0) (0, 0) 157 [some (xr 12 0), some (xi x1), none, some (xi x3), none] [] h (PoV r)) (x1 x3 : Int) (h : Hp) (hL : Lay h) (hF : b_X12_mouthLine_6 rec x1 x3 h = some r) : X E mX12_mouthLine (d + 1008) (0, 0) (0, 0) 336 [some (xr 12 0), some (xi x1), none, some (xi x3), none] [] h (PoV r) := by
  unfold b_X12_mouthLine_6 at hF
  refine x_goto (tgt := 157) dX12_mouthLine_336 (by decide) ?_
  exact x_dp (ls2 := [some (xr 12 0), some (xi x1), none, some (xi x3), none]) ⟨rfl, rfl, rfl, trivial⟩ (hr_157 x1 x3 h hL hF)
set_option maxHeartbeats 4000000 in
set_option maxRecDepth 100000 in
theorem t_X12_mouthLine_7 (E : xE) (d : Nat) (rec : Rk) (r : Int × Hp) (x1 : Int) (h : Hp) (hL : Lay h) (hF : b_X12_mouthLine_7 rec x1 h = some r) : X E mX12_mouthLine (d + 1008) (0, 0) (0, 0) 339 [some (xr 12 0), some (xi x1), none, none, none] [] h (PoV r) := by
  unfold b_X12_mouthLine_7 at hF
  refine x_aload_n (i := 0) (b := 340) dX12_mouthLine_339 rfl rfl rfl ?_
  refine x_getL (j := 0) (t := (79, 0, true)) (b := 343) fk_X12_68 dX12_mouthLine_340 rfl hL rfl rfl rfl ?_
  refine x_iload_n (i := 1) (b := 344) dX12_mouthLine_343 rfl rfl rfl ?_
  refine x_aload_n (i := 0) (b := 345) dX12_mouthLine_344 rfl rfl rfl ?_
  refine x_bipush (n := 14) (b := 347) dX12_mouthLine_345 (by decide) rfl ?_
  obtain ⟨v1, h2, hq, hF⟩ := bd_e hF
  refine x_callV (as := [xi 14]) (rest := [xi x1, xr 79 0]) (b := 350) (c_X12_fresher (d + 1006) 14 h _ hL hq) dX12_mouthLine_347 cw_X12_266 ⟨_, _, rfl, Nat.le_of_ble_eq_true rfl⟩ rfl rfl (Nat.le_of_ble_eq_true rfl) ⟨Nat.le_refl _, Nat.le_refl _⟩ rfl (fun rv hh hp _ => ?_)
  obtain ⟨rfl, rfl, hL⟩ := hp
  obtain ⟨hs, hF⟩ := ck_e hF
  have hs1 := hs
  refine x_iast (b := 351) ak_79 dX12_mouthLine_350 hs1 rfl ?_
  obtain ⟨h3, e_h3, hF⟩ := lt_e hF
  refine x_hp (h2 := h3) e_h3 ?_
  replace hL : Lay h3 := by rw [← e_h3]; exact hL
  refine x_aload_n (i := 0) (b := 352) dX12_mouthLine_351 rfl rfl rfl ?_
  obtain ⟨v4, h5, hq, hF⟩ := bd_e hF
  refine x_callV (as := []) (rest := []) (b := 355) (c_X12_expression d h3 _ hL hq) dX12_mouthLine_352 cw_X12_324 ⟨_, _, rfl, Nat.le_of_ble_eq_true rfl⟩ rfl rfl (Nat.le_of_ble_eq_true rfl) ⟨Nat.le_refl _, Nat.le_refl _⟩ rfl (fun rv hh hp _ => ?_)
  obtain ⟨rfl, rfl, hL⟩ := hp
  refine x_aload_n (i := 0) (b := 356) dX12_mouthLine_355 rfl rfl rfl ?_
  refine x_getL (j := 0) (t := (80, 0, true)) (b := 359) fk_X12_71 dX12_mouthLine_356 rfl hL rfl rfl rfl ?_
  refine x_iload_n (i := 1) (b := 360) dX12_mouthLine_359 rfl rfl rfl ?_
  refine x_aload_n (i := 0) (b := 361) dX12_mouthLine_360 rfl rfl rfl ?_
  refine x_bipush (n := 14) (b := 363) dX12_mouthLine_361 (by decide) rfl ?_
  obtain ⟨v6, h7, hq, hF⟩ := bd_e hF
  refine x_callV (as := [xi 14]) (rest := [xi x1, xr 80 0]) (b := 366) (c_X12_fresher (d + 1006) 14 h5 _ hL hq) dX12_mouthLine_363 cw_X12_266 ⟨_, _, rfl, Nat.le_of_ble_eq_true rfl⟩ rfl rfl (Nat.le_of_ble_eq_true rfl) ⟨Nat.le_refl _, Nat.le_refl _⟩ rfl (fun rv hh hp _ => ?_)
  obtain ⟨rfl, rfl, hL⟩ := hp
  obtain ⟨hs, hF⟩ := ck_e hF
  have hs1 := hs
  refine x_iast (b := 367) ak_80 dX12_mouthLine_366 hs1 rfl ?_
  obtain ⟨h8, e_h8, hF⟩ := lt_e hF
  refine x_hp (h2 := h8) e_h8 ?_
  replace hL : Lay h8 := by rw [← e_h8]; exact hL
  refine x_return dX12_mouthLine_367 rfl ⟨Nat.le_refl _, Nat.le_refl _⟩ ?_
  cases hF
  exact ⟨rfl, rfl, hL⟩
set_option maxHeartbeats 4000000 in
set_option maxRecDepth 100000 in
theorem u_X12_mouthLine (E : xE) (d : Nat) (r : Int × Hp) : ∀ n : Nat, (∀ (x1 x2 : Int) (h : Hp), Lay h → g_X12_mouthLine n 0 [x1, x2] h = some r → X E mX12_mouthLine (d + 1008) (0, 0) (0, 0) 0 [some (xr 12 0), some (xi x1), some (xi x2), none, none] [] h (PoV r)) ∧ (∀ (x1 x2 : Int) (h : Hp), Lay h → g_X12_mouthLine n 1 [x1, x2] h = some r → X E mX12_mouthLine (d + 1008) (0, 0) (0, 0) 33 [some (xr 12 0), some (xi x1), some (xi x2), none, none] [] h (PoV r)) ∧ (∀ (x1 : Int) (h : Hp), Lay h → g_X12_mouthLine n 2 [x1] h = some r → X E mX12_mouthLine (d + 1008) (0, 0) (0, 0) 100 [some (xr 12 0), some (xi x1), none, none, none] [] h (PoV r)) ∧ (∀ (x1 : Int) (h : Hp), Lay h → g_X12_mouthLine n 3 [x1] h = some r → X E mX12_mouthLine (d + 1008) (0, 0) (0, 0) 117 [some (xr 12 0), some (xi x1), none, none, none] [] h (PoV r)) ∧ (∀ (x1 x3 : Int) (h : Hp), Lay h → g_X12_mouthLine n 4 [x1, x3] h = some r → X E mX12_mouthLine (d + 1008) (0, 0) (0, 0) 157 [some (xr 12 0), some (xi x1), none, some (xi x3), none] [] h (PoV r)) ∧ (∀ (x1 x3 x4 : Int) (h : Hp), Lay h → g_X12_mouthLine n 5 [x1, x3, x4] h = some r → X E mX12_mouthLine (d + 1008) (0, 0) (0, 0) 210 [some (xr 12 0), some (xi x1), none, some (xi x3), some (xi x4)] [] h (PoV r)) ∧ (∀ (x1 x3 : Int) (h : Hp), Lay h → g_X12_mouthLine n 6 [x1, x3] h = some r → X E mX12_mouthLine (d + 1008) (0, 0) (0, 0) 336 [some (xr 12 0), some (xi x1), none, some (xi x3), none] [] h (PoV r)) ∧ (∀ (x1 : Int) (h : Hp), Lay h → g_X12_mouthLine n 7 [x1] h = some r → X E mX12_mouthLine (d + 1008) (0, 0) (0, 0) 339 [some (xr 12 0), some (xi x1), none, none, none] [] h (PoV r)) := by
  intro n
  induction n with
  | zero => exact ⟨fun _ _ _ _ hF => no_e (r := r) hF, fun _ _ _ _ hF => no_e (r := r) hF, fun _ _ _ hF => no_e (r := r) hF, fun _ _ _ hF => no_e (r := r) hF, fun _ _ _ _ hF => no_e (r := r) hF, fun _ _ _ _ _ hF => no_e (r := r) hF, fun _ _ _ _ hF => no_e (r := r) hF, fun _ _ _ hF => no_e (r := r) hF⟩
  | succ n ih => exact ⟨fun x1 x2 h hL hF => t_X12_mouthLine_0 E d (g_X12_mouthLine n) r ih.2.1 x1 x2 h hL hF, fun x1 x2 h hL hF => t_X12_mouthLine_1 E d (g_X12_mouthLine n) r ih.2.2.1 ih.2.2.2.1 x1 x2 h hL hF, fun x1 h hL hF => t_X12_mouthLine_2 E d (g_X12_mouthLine n) r ih.2.2.2.1 x1 h hL hF, fun x1 h hL hF => t_X12_mouthLine_3 E d (g_X12_mouthLine n) r ih.2.2.2.2.1 x1 h hL hF, fun x1 x3 h hL hF => t_X12_mouthLine_4 E d (g_X12_mouthLine n) r ih.2.2.2.2.2.1 ih.2.2.2.2.2.2.2 x1 x3 h hL hF, fun x1 x3 x4 h hL hF => t_X12_mouthLine_5 E d (g_X12_mouthLine n) r ih.2.2.2.2.2.2.1 x1 x3 x4 h hL hF, fun x1 x3 h hL hF => t_X12_mouthLine_6 E d (g_X12_mouthLine n) r ih.2.2.2.2.1 x1 x3 h hL hF, fun x1 h hL hF => t_X12_mouthLine_7 E d (g_X12_mouthLine n) r  x1 h hL hF⟩
theorem c_X12_mouthLine (d : Nat) (x1 x2 : Int) (h : Hp) (r : Int × Hp) (hL : Lay h) (hF : f_X12_mouthLine x1 x2 h = some r) : Sp mX12_mouthLine (d + 1008) (0, 0) [xr 12 0, xi x1, xi x2] h (PoV r) :=
  sp_of (by decide) rfl (Nat.le_of_ble_eq_true rfl) (ls := [some (xr 12 0), some (xi x1), some (xi x2), none, none]) rfl (fun E _ => (u_X12_mouthLine E d r FU).1 x1 x2 h hL hF)
theorem dX12_water_0 : decode cX12_water 0 = .ok (.aload_n 0, 1) := by decide +kernel
theorem dX12_water_1 : decode cX12_water 1 = .ok (.invokevirtual 273, 3) := by decide +kernel
theorem dX12_water_4 : decode cX12_water 4 = .ok (.istore_n 1, 1) := by decide +kernel
theorem dX12_water_5 : decode cX12_water 5 = .ok (.aload_n 0, 1) := by decide +kernel
theorem dX12_water_6 : decode cX12_water 6 = .ok (.getfield 247, 3) := by decide +kernel
theorem dX12_water_9 : decode cX12_water 9 = .ok (.ifCond .ne 20, 3) := by decide +kernel
theorem dX12_water_12 : decode cX12_water 12 = .ok (.aload_n 0, 1) := by decide +kernel
theorem dX12_water_13 : decode cX12_water 13 = .ok (.getfield 16, 3) := by decide +kernel
theorem dX12_water_16 : decode cX12_water 16 = .ok (.bipush 64, 2) := by decide +kernel
theorem dX12_water_18 : decode cX12_water 18 = .ok (.iload_n 1, 1) := by decide +kernel
theorem dX12_water_19 : decode cX12_water 19 = .ok (.iadd, 1) := by decide +kernel
theorem dX12_water_20 : decode cX12_water 20 = .ok (.baload, 1) := by decide +kernel
theorem dX12_water_21 : decode cX12_water 21 = .ok (.ifCond .eq 8, 3) := by decide +kernel
theorem dX12_water_24 : decode cX12_water 24 = .ok (.aload_n 0, 1) := by decide +kernel
theorem dX12_water_25 : decode cX12_water 25 = .ok (.iconst 5, 1) := by decide +kernel
theorem dX12_water_26 : decode cX12_water 26 = .ok (.invokevirtual 256, 3) := by decide +kernel
theorem dX12_water_29 : decode cX12_water 29 = .ok (.aload_n 0, 1) := by decide +kernel
theorem dX12_water_30 : decode cX12_water 30 = .ok (.invokevirtual 263, 3) := by decide +kernel
theorem dX12_water_33 : decode cX12_water 33 = .ok (.iload_n 1, 1) := by decide +kernel
theorem dX12_water_34 : decode cX12_water 34 = .ok (.ireturn, 1) := by decide +kernel
noncomputable def b_X12_water_0 (rec : Rk) (h : Hp) : Option (Int × Hp) :=
  bd (f_X12_cellAtHand h) fun v1 h2 =>
  if (gI h2 12 0 32) = 0 then (
    ck (-2147483648 ≤ 64 + v1 ∧ 64 + v1 < 2147483648) <|
    ck (0 ≤ (64 + v1) ∧ (64 + v1) < 128) <|
    if (gI h2 62 0 (64 + v1)) = 0 then (
      rec 1 [v1] h2
    ) else (
      bd (f_X12_wrong 5 h2) fun v3 h4 =>
      rec 1 [v1] h4
    )
  ) else (
    rec 1 [v1] h2
  )
noncomputable def b_X12_water_1 (rec : Rk) (x1 : Int) (h : Hp) : Option (Int × Hp) :=
  bd (f_X12_goOn h) fun v1 h2 =>
  some (x1, h2)
noncomputable def g_X12_water (n : Nat) : Rk := Nat.rec (motive := fun _ => Rk) (fun _ _ _ => none) (fun _ rec k l h => if k = 0 then b_X12_water_0 rec  h else if k = 1 then b_X12_water_1 rec (l.getD 0 0) h else none) n
noncomputable def f_X12_water (h : Hp) : Option (Int × Hp) := g_X12_water FU 0 [] h
set_option maxHeartbeats 4000000 in
set_option maxRecDepth 100000 in
theorem t_X12_water_0 (E : xE) (d : Nat) (rec : Rk) (r : Int × Hp) (hr_29 : ∀ (x1 : Int) (h : Hp), Lay h → rec 1 [x1] h = some r → X E mX12_water (d + 10) (0, 0) (0, 0) 29 [some (xr 12 0), some (xi x1)] [] h (PoI r)) (h : Hp) (hL : Lay h) (hF : b_X12_water_0 rec  h = some r) : X E mX12_water (d + 10) (0, 0) (0, 0) 0 [some (xr 12 0), none] [] h (PoI r) := by
  unfold b_X12_water_0 at hF
  refine x_aload_n (i := 0) (b := 1) dX12_water_0 rfl rfl rfl ?_
  obtain ⟨v1, h2, hq, hF⟩ := bd_e hF
  refine x_callV (as := []) (rest := []) (b := 4) (c_X12_cellAtHand d h _ hL hq) dX12_water_1 cw_X12_273 ⟨_, _, rfl, Nat.le_of_ble_eq_true rfl⟩ rfl rfl (Nat.le_of_ble_eq_true rfl) ⟨Nat.le_refl _, Nat.le_refl _⟩ rfl (fun rv hh hp _ => ?_)
  obtain ⟨rfl, rfl, hL⟩ := hp
  refine x_istore_n (i := 1) (b := 5) (ls2 := [some (xr 12 0), some (xi v1)]) dX12_water_4 rfl (Nat.le_of_ble_eq_true rfl) rfl rfl ?_
  refine x_aload_n (i := 0) (b := 6) dX12_water_5 rfl rfl rfl ?_
  refine x_getI (v := gI h2 12 0 32) (b := 9) fk_X12_247 dX12_water_6 (by decide) rfl rfl ?_
  refine x_if_ne (tgt := 29) (b := 12) dX12_water_9 (by decide) rfl (fun hc => ?_) (fun hc => ?_)
  · replace hF := br_F hc hF
    exact x_dp (ls2 := [some (xr 12 0), some (xi v1)]) ⟨rfl, rfl, trivial⟩ (hr_29 v1 h2 hL hF)
  · replace hF := br_T hc hF
    refine x_aload_n (i := 0) (b := 13) dX12_water_12 rfl rfl rfl ?_
    refine x_getL (j := 0) (t := (62, 0, true)) (b := 16) fk_X12_16 dX12_water_13 rfl hL rfl rfl rfl ?_
    refine x_bipush (n := 64) (b := 18) dX12_water_16 (by decide) rfl ?_
    refine x_iload_n (i := 1) (b := 19) dX12_water_18 rfl rfl rfl ?_
    obtain ⟨hs, hF⟩ := ck_e hF
    refine x_iadd (b := 20) dX12_water_19 hs rfl ?_
    obtain ⟨hs, hF⟩ := ck_e hF
    refine x_zald (v := gI h2 62 0 (64 + v1)) (b := 21) ak_62 dX12_water_20 hs rfl rfl ?_
    refine x_if_eq (tgt := 29) (b := 24) dX12_water_21 (by decide) rfl (fun hc => ?_) (fun hc => ?_)
    · replace hF := br_T hc hF
      exact x_dp (ls2 := [some (xr 12 0), some (xi v1)]) ⟨rfl, rfl, trivial⟩ (hr_29 v1 h2 hL hF)
    · replace hF := br_F hc hF
      refine x_aload_n (i := 0) (b := 25) dX12_water_24 rfl rfl rfl ?_
      refine x_iconst (n := 5) (b := 26) dX12_water_25 (by decide) rfl ?_
      obtain ⟨v3, h4, hq, hF⟩ := bd_e hF
      refine x_callV (as := [xi 5]) (rest := []) (b := 29) (c_X12_wrong (d + 8) 5 h2 _ hL hq) dX12_water_26 cw_X12_256 ⟨_, _, rfl, Nat.le_of_ble_eq_true rfl⟩ rfl rfl (Nat.le_of_ble_eq_true rfl) ⟨Nat.le_refl _, Nat.le_refl _⟩ rfl (fun rv hh hp _ => ?_)
      obtain ⟨rfl, rfl, hL⟩ := hp
      exact x_dp (ls2 := [some (xr 12 0), some (xi v1)]) ⟨rfl, rfl, trivial⟩ (hr_29 v1 h4 hL hF)
set_option maxHeartbeats 4000000 in
set_option maxRecDepth 100000 in
theorem t_X12_water_1 (E : xE) (d : Nat) (rec : Rk) (r : Int × Hp) (x1 : Int) (h : Hp) (hL : Lay h) (hF : b_X12_water_1 rec x1 h = some r) : X E mX12_water (d + 10) (0, 0) (0, 0) 29 [some (xr 12 0), some (xi x1)] [] h (PoI r) := by
  unfold b_X12_water_1 at hF
  refine x_aload_n (i := 0) (b := 30) dX12_water_29 rfl rfl rfl ?_
  obtain ⟨v1, h2, hq, hF⟩ := bd_e hF
  refine x_callV (as := []) (rest := []) (b := 33) (c_X12_goOn (d + 2) h _ hL hq) dX12_water_30 cw_X12_263 ⟨_, _, rfl, Nat.le_of_ble_eq_true rfl⟩ rfl rfl (Nat.le_of_ble_eq_true rfl) ⟨Nat.le_refl _, Nat.le_refl _⟩ rfl (fun rv hh hp _ => ?_)
  obtain ⟨rfl, rfl, hL⟩ := hp
  refine x_iload_n (i := 1) (b := 34) dX12_water_33 rfl rfl rfl ?_
  refine x_ireturn dX12_water_34 rfl ⟨Nat.le_refl _, Nat.le_refl _⟩ ?_
  cases hF
  exact ⟨rfl, rfl, hL⟩
set_option maxHeartbeats 4000000 in
set_option maxRecDepth 100000 in
theorem u_X12_water (E : xE) (d : Nat) (r : Int × Hp) : ∀ n : Nat, (∀ (h : Hp), Lay h → g_X12_water n 0 [] h = some r → X E mX12_water (d + 10) (0, 0) (0, 0) 0 [some (xr 12 0), none] [] h (PoI r)) ∧ (∀ (x1 : Int) (h : Hp), Lay h → g_X12_water n 1 [x1] h = some r → X E mX12_water (d + 10) (0, 0) (0, 0) 29 [some (xr 12 0), some (xi x1)] [] h (PoI r)) := by
  intro n
  induction n with
  | zero => exact ⟨fun _ _ hF => no_e (r := r) hF, fun _ _ _ hF => no_e (r := r) hF⟩
  | succ n ih => exact ⟨fun h hL hF => t_X12_water_0 E d (g_X12_water n) r ih.2  h hL hF, fun x1 h hL hF => t_X12_water_1 E d (g_X12_water n) r  x1 h hL hF⟩
theorem c_X12_water (d : Nat) (h : Hp) (r : Int × Hp) (hL : Lay h) (hF : f_X12_water  h = some r) : Sp mX12_water (d + 10) (0, 0) [xr 12 0] h (PoI r) :=
  sp_of (by decide) rfl (Nat.le_of_ble_eq_true rfl) (ls := [some (xr 12 0), none]) rfl (fun E _ => (u_X12_water E d r FU).1  h hL hF)
theorem dX12_isleLine_0 : decode cX12_isleLine 0 = .ok (.aload_n 0, 1) := by decide +kernel
theorem dX12_isleLine_1 : decode cX12_isleLine 1 = .ok (.getfield 213, 3) := by decide +kernel
theorem dX12_isleLine_4 : decode cX12_isleLine 4 = .ok (.iconst 1, 1) := by decide +kernel
theorem dX12_isleLine_5 : decode cX12_isleLine 5 = .ok (.if_icmp .eq 11, 3) := by decide +kernel
theorem dX12_isleLine_8 : decode cX12_isleLine 8 = .ok (.aload_n 0, 1) := by decide +kernel
theorem dX12_isleLine_9 : decode cX12_isleLine 9 = .ok (.iconst 1, 1) := by decide +kernel
theorem dX12_isleLine_10 : decode cX12_isleLine 10 = .ok (.invokevirtual 256, 3) := by decide +kernel
theorem dX12_isleLine_13 : decode cX12_isleLine 13 = .ok (.goto 29, 3) := by decide +kernel
theorem dX12_isleLine_16 : decode cX12_isleLine 16 = .ok (.aload_n 0, 1) := by decide +kernel
theorem dX12_isleLine_17 : decode cX12_isleLine 17 = .ok (.getfield 20, 3) := by decide +kernel
theorem dX12_isleLine_20 : decode cX12_isleLine 20 = .ok (.iconst 3, 1) := by decide +kernel
theorem dX12_isleLine_21 : decode cX12_isleLine 21 = .ok (.aload_n 0, 1) := by decide +kernel
theorem dX12_isleLine_22 : decode cX12_isleLine 22 = .ok (.iconst 5, 1) := by decide +kernel
theorem dX12_isleLine_23 : decode cX12_isleLine 23 = .ok (.invokevirtual 266, 3) := by decide +kernel
theorem dX12_isleLine_26 : decode cX12_isleLine 26 = .ok (.aload_n 0, 1) := by decide +kernel
theorem dX12_isleLine_27 : decode cX12_isleLine 27 = .ok (.getfield 223, 3) := by decide +kernel
theorem dX12_isleLine_30 : decode cX12_isleLine 30 = .ok (.invokestatic 314, 3) := by decide +kernel
theorem dX12_isleLine_33 : decode cX12_isleLine 33 = .ok (.iconst (-1), 1) := by decide +kernel
theorem dX12_isleLine_34 : decode cX12_isleLine 34 = .ok (.if_icmp .eq 8, 3) := by decide +kernel
theorem dX12_isleLine_37 : decode cX12_isleLine 37 = .ok (.aload_n 0, 1) := by decide +kernel
theorem dX12_isleLine_38 : decode cX12_isleLine 38 = .ok (.iconst 3, 1) := by decide +kernel
theorem dX12_isleLine_39 : decode cX12_isleLine 39 = .ok (.invokevirtual 256, 3) := by decide +kernel
theorem dX12_isleLine_42 : decode cX12_isleLine 42 = .ok (.aload_n 0, 1) := by decide +kernel
theorem dX12_isleLine_43 : decode cX12_isleLine 43 = .ok (.getfield 20, 3) := by decide +kernel
theorem dX12_isleLine_46 : decode cX12_isleLine 46 = .ok (.iload_n 1, 1) := by decide +kernel
theorem dX12_isleLine_47 : decode cX12_isleLine 47 = .ok (.aload_n 0, 1) := by decide +kernel
theorem dX12_isleLine_48 : decode cX12_isleLine 48 = .ok (.getfield 223, 3) := by decide +kernel
theorem dX12_isleLine_51 : decode cX12_isleLine 51 = .ok (.iastore, 1) := by decide +kernel
theorem dX12_isleLine_52 : decode cX12_isleLine 52 = .ok (.aload_n 0, 1) := by decide +kernel
theorem dX12_isleLine_53 : decode cX12_isleLine 53 = .ok (.invokevirtual 263, 3) := by decide +kernel
theorem dX12_isleLine_56 : decode cX12_isleLine 56 = .ok (.aload_n 0, 1) := by decide +kernel
theorem dX12_isleLine_57 : decode cX12_isleLine 57 = .ok (.getfield 23, 3) := by decide +kernel
theorem dX12_isleLine_60 : decode cX12_isleLine 60 = .ok (.iload_n 1, 1) := by decide +kernel
theorem dX12_isleLine_61 : decode cX12_isleLine 61 = .ok (.aload_n 0, 1) := by decide +kernel
theorem dX12_isleLine_62 : decode cX12_isleLine 62 = .ok (.invokevirtual 295, 3) := by decide +kernel
theorem dX12_isleLine_65 : decode cX12_isleLine 65 = .ok (.iastore, 1) := by decide +kernel
theorem dX12_isleLine_66 : decode cX12_isleLine 66 = .ok (.aload_n 0, 1) := by decide +kernel
theorem dX12_isleLine_67 : decode cX12_isleLine 67 = .ok (.getfield 26, 3) := by decide +kernel
theorem dX12_isleLine_70 : decode cX12_isleLine 70 = .ok (.iload_n 1, 1) := by decide +kernel
theorem dX12_isleLine_71 : decode cX12_isleLine 71 = .ok (.aload_n 0, 1) := by decide +kernel
theorem dX12_isleLine_72 : decode cX12_isleLine 72 = .ok (.iconst 0, 1) := by decide +kernel
theorem dX12_isleLine_73 : decode cX12_isleLine 73 = .ok (.bipush 9, 2) := by decide +kernel
theorem dX12_isleLine_75 : decode cX12_isleLine 75 = .ok (.invokevirtual 270, 3) := by decide +kernel
theorem dX12_isleLine_78 : decode cX12_isleLine 78 = .ok (.iastore, 1) := by decide +kernel
theorem dX12_isleLine_79 : decode cX12_isleLine 79 = .ok (.aload_n 0, 1) := by decide +kernel
theorem dX12_isleLine_80 : decode cX12_isleLine 80 = .ok (.getfield 29, 3) := by decide +kernel
theorem dX12_isleLine_83 : decode cX12_isleLine 83 = .ok (.iload_n 1, 1) := by decide +kernel
theorem dX12_isleLine_84 : decode cX12_isleLine 84 = .ok (.aload_n 0, 1) := by decide +kernel
theorem dX12_isleLine_85 : decode cX12_isleLine 85 = .ok (.iconst 1, 1) := by decide +kernel
theorem dX12_isleLine_86 : decode cX12_isleLine 86 = .ok (.bipush 9, 2) := by decide +kernel
theorem dX12_isleLine_88 : decode cX12_isleLine 88 = .ok (.invokevirtual 270, 3) := by decide +kernel
theorem dX12_isleLine_91 : decode cX12_isleLine 91 = .ok (.iastore, 1) := by decide +kernel
theorem dX12_isleLine_92 : decode cX12_isleLine 92 = .ok (.aload_n 0, 1) := by decide +kernel
theorem dX12_isleLine_93 : decode cX12_isleLine 93 = .ok (.iconst 5, 1) := by decide +kernel
theorem dX12_isleLine_94 : decode cX12_isleLine 94 = .ok (.aload_n 0, 1) := by decide +kernel
theorem dX12_isleLine_95 : decode cX12_isleLine 95 = .ok (.iconst 5, 1) := by decide +kernel
theorem dX12_isleLine_96 : decode cX12_isleLine 96 = .ok (.invokevirtual 266, 3) := by decide +kernel
theorem dX12_isleLine_99 : decode cX12_isleLine 99 = .ok (.iconst 1, 1) := by decide +kernel
theorem dX12_isleLine_100 : decode cX12_isleLine 100 = .ok (.iadd, 1) := by decide +kernel
theorem dX12_isleLine_101 : decode cX12_isleLine 101 = .ok (.invokevirtual 288, 3) := by decide +kernel
theorem dX12_isleLine_104 : decode cX12_isleLine 104 = .ok (.return_, 1) := by decide +kernel
noncomputable def b_X12_isleLine_0 (rec : Rk) (x1 : Int) (h : Hp) : Option (Int × Hp) :=
  if (gI h 12 0 30) = 1 then (
    bd (f_X12_fresher 5 h) fun v1 h2 =>
    bd (f_X12_found_r63 3 v1 (gI h2 12 0 31) h2) fun v3 h4 =>
    if v3 = (-1) then (
      rec 1 [x1] h4
    ) else (
      bd (f_X12_wrong 3 h4) fun v5 h6 =>
      rec 1 [x1] h6
    )
  ) else (
    bd (f_X12_wrong 1 h) fun v7 h8 =>
    rec 1 [x1] h8
  )
noncomputable def b_X12_isleLine_1 (rec : Rk) (x1 : Int) (h : Hp) : Option (Int × Hp) :=
  ck (0 ≤ x1 ∧ x1 < 6) <|
  lt (sI h 63 0 x1 (gI h 12 0 31)) fun h1 =>
  bd (f_X12_goOn h1) fun v2 h3 =>
  bd (f_X12_water h3) fun v4 h5 =>
  ck (0 ≤ x1 ∧ x1 < 6) <|
  lt (sI h5 64 0 x1 v4) fun h6 =>
  bd (f_X12_numeral 0 9 h6) fun v7 h8 =>
  ck (0 ≤ x1 ∧ x1 < 6) <|
  lt (sI h8 65 0 x1 v7) fun h9 =>
  bd (f_X12_numeral 1 9 h9) fun v10 h11 =>
  ck (0 ≤ x1 ∧ x1 < 6) <|
  lt (sI h11 66 0 x1 v10) fun h12 =>
  bd (f_X12_fresher 5 h12) fun v13 h14 =>
  ck (-2147483648 ≤ v13 + 1 ∧ v13 + 1 < 2147483648) <|
  bd (f_X12_reads 5 (v13 + 1) h14) fun v15 h16 =>
  some (0, h16)
noncomputable def g_X12_isleLine (n : Nat) : Rk := Nat.rec (motive := fun _ => Rk) (fun _ _ _ => none) (fun _ rec k l h => if k = 0 then b_X12_isleLine_0 rec (l.getD 0 0) h else if k = 1 then b_X12_isleLine_1 rec (l.getD 0 0) h else none) n
noncomputable def f_X12_isleLine (x1 : Int) (h : Hp) : Option (Int × Hp) := g_X12_isleLine FU 0 [x1] h
set_option maxHeartbeats 4000000 in
set_option maxRecDepth 100000 in
theorem t_X12_isleLine_0 (E : xE) (d : Nat) (rec : Rk) (r : Int × Hp) (hr_42 : ∀ (x1 : Int) (h : Hp), Lay h → rec 1 [x1] h = some r → X E mX12_isleLine (d + 11) (0, 0) (0, 0) 42 [some (xr 12 0), some (xi x1)] [] h (PoV r)) (x1 : Int) (h : Hp) (hL : Lay h) (hF : b_X12_isleLine_0 rec x1 h = some r) : X E mX12_isleLine (d + 11) (0, 0) (0, 0) 0 [some (xr 12 0), some (xi x1)] [] h (PoV r) := by
  unfold b_X12_isleLine_0 at hF
  refine x_aload_n (i := 0) (b := 1) dX12_isleLine_0 rfl rfl rfl ?_
  refine x_getI (v := gI h 12 0 30) (b := 4) fk_X12_213 dX12_isleLine_1 (by decide) rfl rfl ?_
  refine x_iconst (n := 1) (b := 5) dX12_isleLine_4 (by decide) rfl ?_
  refine x_icmp_eq (tgt := 16) (b := 8) dX12_isleLine_5 (by decide) rfl (fun hc => ?_) (fun hc => ?_)
  · replace hF := br_T hc hF
    refine x_aload_n (i := 0) (b := 17) dX12_isleLine_16 rfl rfl rfl ?_
    refine x_getL (j := 0) (t := (63, 0, true)) (b := 20) fk_X12_20 dX12_isleLine_17 rfl hL rfl rfl rfl ?_
    refine x_iconst (n := 3) (b := 21) dX12_isleLine_20 (by decide) rfl ?_
    refine x_aload_n (i := 0) (b := 22) dX12_isleLine_21 rfl rfl rfl ?_
    refine x_iconst (n := 5) (b := 23) dX12_isleLine_22 (by decide) rfl ?_
    obtain ⟨v1, h2, hq, hF⟩ := bd_e hF
    refine x_callV (as := [xi 5]) (rest := [xi 3, xr 63 0]) (b := 26) (c_X12_fresher (d + 9) 5 h _ hL hq) dX12_isleLine_23 cw_X12_266 ⟨_, _, rfl, Nat.le_of_ble_eq_true rfl⟩ rfl rfl (Nat.le_of_ble_eq_true rfl) ⟨Nat.le_refl _, Nat.le_refl _⟩ rfl (fun rv hh hp _ => ?_)
    obtain ⟨rfl, rfl, hL⟩ := hp
    refine x_aload_n (i := 0) (b := 27) dX12_isleLine_26 rfl rfl rfl ?_
    refine x_getI (v := gI h2 12 0 31) (b := 30) fk_X12_223 dX12_isleLine_27 (by decide) rfl rfl ?_
    obtain ⟨v3, h4, hq, hF⟩ := bd_e hF
    refine x_callS (as := [xr 63 0, xi 3, xi v1, xi (gI h2 12 0 31)]) (rest := []) (b := 33) (c_X12_found_r63 (d + 9) 3 v1 (gI h2 12 0 31) h2 _ hL hq) dX12_isleLine_30 cw_X12_314 rfl rfl (Nat.le_of_ble_eq_true rfl) ⟨Nat.le_refl _, Nat.le_refl _⟩ rfl (fun rv hh hp _ => ?_)
    obtain ⟨rfl, rfl, hL⟩ := hp
    refine x_iconst (n := (-1)) (b := 34) dX12_isleLine_33 (by decide) rfl ?_
    refine x_icmp_eq (tgt := 42) (b := 37) dX12_isleLine_34 (by decide) rfl (fun hc => ?_) (fun hc => ?_)
    · replace hF := br_T hc hF
      exact x_dp (ls2 := [some (xr 12 0), some (xi x1)]) ⟨rfl, rfl, trivial⟩ (hr_42 x1 h4 hL hF)
    · replace hF := br_F hc hF
      refine x_aload_n (i := 0) (b := 38) dX12_isleLine_37 rfl rfl rfl ?_
      refine x_iconst (n := 3) (b := 39) dX12_isleLine_38 (by decide) rfl ?_
      obtain ⟨v5, h6, hq, hF⟩ := bd_e hF
      refine x_callV (as := [xi 3]) (rest := []) (b := 42) (c_X12_wrong (d + 9) 3 h4 _ hL hq) dX12_isleLine_39 cw_X12_256 ⟨_, _, rfl, Nat.le_of_ble_eq_true rfl⟩ rfl rfl (Nat.le_of_ble_eq_true rfl) ⟨Nat.le_refl _, Nat.le_refl _⟩ rfl (fun rv hh hp _ => ?_)
      obtain ⟨rfl, rfl, hL⟩ := hp
      exact x_dp (ls2 := [some (xr 12 0), some (xi x1)]) ⟨rfl, rfl, trivial⟩ (hr_42 x1 h6 hL hF)
  · replace hF := br_F hc hF
    refine x_aload_n (i := 0) (b := 9) dX12_isleLine_8 rfl rfl rfl ?_
    refine x_iconst (n := 1) (b := 10) dX12_isleLine_9 (by decide) rfl ?_
    obtain ⟨v7, h8, hq, hF⟩ := bd_e hF
    refine x_callV (as := [xi 1]) (rest := []) (b := 13) (c_X12_wrong (d + 9) 1 h _ hL hq) dX12_isleLine_10 cw_X12_256 ⟨_, _, rfl, Nat.le_of_ble_eq_true rfl⟩ rfl rfl (Nat.le_of_ble_eq_true rfl) ⟨Nat.le_refl _, Nat.le_refl _⟩ rfl (fun rv hh hp _ => ?_)
    obtain ⟨rfl, rfl, hL⟩ := hp
    refine x_goto (tgt := 42) dX12_isleLine_13 (by decide) ?_
    exact x_dp (ls2 := [some (xr 12 0), some (xi x1)]) ⟨rfl, rfl, trivial⟩ (hr_42 x1 h8 hL hF)
set_option maxHeartbeats 4000000 in
set_option maxRecDepth 100000 in
theorem t_X12_isleLine_1 (E : xE) (d : Nat) (rec : Rk) (r : Int × Hp) (x1 : Int) (h : Hp) (hL : Lay h) (hF : b_X12_isleLine_1 rec x1 h = some r) : X E mX12_isleLine (d + 11) (0, 0) (0, 0) 42 [some (xr 12 0), some (xi x1)] [] h (PoV r) := by
  unfold b_X12_isleLine_1 at hF
  refine x_aload_n (i := 0) (b := 43) dX12_isleLine_42 rfl rfl rfl ?_
  refine x_getL (j := 0) (t := (63, 0, true)) (b := 46) fk_X12_20 dX12_isleLine_43 rfl hL rfl rfl rfl ?_
  refine x_iload_n (i := 1) (b := 47) dX12_isleLine_46 rfl rfl rfl ?_
  refine x_aload_n (i := 0) (b := 48) dX12_isleLine_47 rfl rfl rfl ?_
  refine x_getI (v := gI h 12 0 31) (b := 51) fk_X12_223 dX12_isleLine_48 (by decide) rfl rfl ?_
  obtain ⟨hs, hF⟩ := ck_e hF
  have hs1 := hs
  refine x_iast (b := 52) ak_63 dX12_isleLine_51 hs1 rfl ?_
  obtain ⟨h1, e_h1, hF⟩ := lt_e hF
  refine x_hp (h2 := h1) e_h1 ?_
  replace hL : Lay h1 := by rw [← e_h1]; exact hL
  refine x_aload_n (i := 0) (b := 53) dX12_isleLine_52 rfl rfl rfl ?_
  obtain ⟨v2, h3, hq, hF⟩ := bd_e hF
  refine x_callV (as := []) (rest := []) (b := 56) (c_X12_goOn (d + 3) h1 _ hL hq) dX12_isleLine_53 cw_X12_263 ⟨_, _, rfl, Nat.le_of_ble_eq_true rfl⟩ rfl rfl (Nat.le_of_ble_eq_true rfl) ⟨Nat.le_refl _, Nat.le_refl _⟩ rfl (fun rv hh hp _ => ?_)
  obtain ⟨rfl, rfl, hL⟩ := hp
  refine x_aload_n (i := 0) (b := 57) dX12_isleLine_56 rfl rfl rfl ?_
  refine x_getL (j := 0) (t := (64, 0, true)) (b := 60) fk_X12_23 dX12_isleLine_57 rfl hL rfl rfl rfl ?_
  refine x_iload_n (i := 1) (b := 61) dX12_isleLine_60 rfl rfl rfl ?_
  refine x_aload_n (i := 0) (b := 62) dX12_isleLine_61 rfl rfl rfl ?_
  obtain ⟨v4, h5, hq, hF⟩ := bd_e hF
  refine x_callV (as := []) (rest := [xi x1, xr 64 0]) (b := 65) (c_X12_water d h3 _ hL hq) dX12_isleLine_62 cw_X12_295 ⟨_, _, rfl, Nat.le_of_ble_eq_true rfl⟩ rfl rfl (Nat.le_of_ble_eq_true rfl) ⟨Nat.le_refl _, Nat.le_refl _⟩ rfl (fun rv hh hp _ => ?_)
  obtain ⟨rfl, rfl, hL⟩ := hp
  obtain ⟨hs, hF⟩ := ck_e hF
  have hs1 := hs
  refine x_iast (b := 66) ak_64 dX12_isleLine_65 hs1 rfl ?_
  obtain ⟨h6, e_h6, hF⟩ := lt_e hF
  refine x_hp (h2 := h6) e_h6 ?_
  replace hL : Lay h6 := by rw [← e_h6]; exact hL
  refine x_aload_n (i := 0) (b := 67) dX12_isleLine_66 rfl rfl rfl ?_
  refine x_getL (j := 0) (t := (65, 0, true)) (b := 70) fk_X12_26 dX12_isleLine_67 rfl hL rfl rfl rfl ?_
  refine x_iload_n (i := 1) (b := 71) dX12_isleLine_70 rfl rfl rfl ?_
  refine x_aload_n (i := 0) (b := 72) dX12_isleLine_71 rfl rfl rfl ?_
  refine x_iconst (n := 0) (b := 73) dX12_isleLine_72 (by decide) rfl ?_
  refine x_bipush (n := 9) (b := 75) dX12_isleLine_73 (by decide) rfl ?_
  obtain ⟨v7, h8, hq, hF⟩ := bd_e hF
  refine x_callV (as := [xi 0, xi 9]) (rest := [xi x1, xr 65 0]) (b := 78) (c_X12_numeral (d + 2) 0 9 h6 _ hL hq) dX12_isleLine_75 cw_X12_270 ⟨_, _, rfl, Nat.le_of_ble_eq_true rfl⟩ rfl rfl (Nat.le_of_ble_eq_true rfl) ⟨Nat.le_refl _, Nat.le_refl _⟩ rfl (fun rv hh hp _ => ?_)
  obtain ⟨rfl, rfl, hL⟩ := hp
  obtain ⟨hs, hF⟩ := ck_e hF
  have hs1 := hs
  refine x_iast (b := 79) ak_65 dX12_isleLine_78 hs1 rfl ?_
  obtain ⟨h9, e_h9, hF⟩ := lt_e hF
  refine x_hp (h2 := h9) e_h9 ?_
  replace hL : Lay h9 := by rw [← e_h9]; exact hL
  refine x_aload_n (i := 0) (b := 80) dX12_isleLine_79 rfl rfl rfl ?_
  refine x_getL (j := 0) (t := (66, 0, true)) (b := 83) fk_X12_29 dX12_isleLine_80 rfl hL rfl rfl rfl ?_
  refine x_iload_n (i := 1) (b := 84) dX12_isleLine_83 rfl rfl rfl ?_
  refine x_aload_n (i := 0) (b := 85) dX12_isleLine_84 rfl rfl rfl ?_
  refine x_iconst (n := 1) (b := 86) dX12_isleLine_85 (by decide) rfl ?_
  refine x_bipush (n := 9) (b := 88) dX12_isleLine_86 (by decide) rfl ?_
  obtain ⟨v10, h11, hq, hF⟩ := bd_e hF
  refine x_callV (as := [xi 1, xi 9]) (rest := [xi x1, xr 66 0]) (b := 91) (c_X12_numeral (d + 2) 1 9 h9 _ hL hq) dX12_isleLine_88 cw_X12_270 ⟨_, _, rfl, Nat.le_of_ble_eq_true rfl⟩ rfl rfl (Nat.le_of_ble_eq_true rfl) ⟨Nat.le_refl _, Nat.le_refl _⟩ rfl (fun rv hh hp _ => ?_)
  obtain ⟨rfl, rfl, hL⟩ := hp
  obtain ⟨hs, hF⟩ := ck_e hF
  have hs1 := hs
  refine x_iast (b := 92) ak_66 dX12_isleLine_91 hs1 rfl ?_
  obtain ⟨h12, e_h12, hF⟩ := lt_e hF
  refine x_hp (h2 := h12) e_h12 ?_
  replace hL : Lay h12 := by rw [← e_h12]; exact hL
  refine x_aload_n (i := 0) (b := 93) dX12_isleLine_92 rfl rfl rfl ?_
  refine x_iconst (n := 5) (b := 94) dX12_isleLine_93 (by decide) rfl ?_
  refine x_aload_n (i := 0) (b := 95) dX12_isleLine_94 rfl rfl rfl ?_
  refine x_iconst (n := 5) (b := 96) dX12_isleLine_95 (by decide) rfl ?_
  obtain ⟨v13, h14, hq, hF⟩ := bd_e hF
  refine x_callV (as := [xi 5]) (rest := [xi 5, xr 12 0]) (b := 99) (c_X12_fresher (d + 9) 5 h12 _ hL hq) dX12_isleLine_96 cw_X12_266 ⟨_, _, rfl, Nat.le_of_ble_eq_true rfl⟩ rfl rfl (Nat.le_of_ble_eq_true rfl) ⟨Nat.le_refl _, Nat.le_refl _⟩ rfl (fun rv hh hp _ => ?_)
  obtain ⟨rfl, rfl, hL⟩ := hp
  refine x_iconst (n := 1) (b := 100) dX12_isleLine_99 (by decide) rfl ?_
  obtain ⟨hs, hF⟩ := ck_e hF
  refine x_iadd (b := 101) dX12_isleLine_100 hs rfl ?_
  obtain ⟨v15, h16, hq, hF⟩ := bd_e hF
  refine x_callV (as := [xi 5, xi (v13 + 1)]) (rest := []) (b := 104) (c_X12_reads (d + 9) 5 (v13 + 1) h14 _ hL hq) dX12_isleLine_101 cw_X12_288 ⟨_, _, rfl, Nat.le_of_ble_eq_true rfl⟩ rfl rfl (Nat.le_of_ble_eq_true rfl) ⟨Nat.le_refl _, Nat.le_refl _⟩ rfl (fun rv hh hp _ => ?_)
  obtain ⟨rfl, rfl, hL⟩ := hp
  refine x_return dX12_isleLine_104 rfl ⟨Nat.le_refl _, Nat.le_refl _⟩ ?_
  cases hF
  exact ⟨rfl, rfl, hL⟩
set_option maxHeartbeats 4000000 in
set_option maxRecDepth 100000 in
theorem u_X12_isleLine (E : xE) (d : Nat) (r : Int × Hp) : ∀ n : Nat, (∀ (x1 : Int) (h : Hp), Lay h → g_X12_isleLine n 0 [x1] h = some r → X E mX12_isleLine (d + 11) (0, 0) (0, 0) 0 [some (xr 12 0), some (xi x1)] [] h (PoV r)) ∧ (∀ (x1 : Int) (h : Hp), Lay h → g_X12_isleLine n 1 [x1] h = some r → X E mX12_isleLine (d + 11) (0, 0) (0, 0) 42 [some (xr 12 0), some (xi x1)] [] h (PoV r)) := by
  intro n
  induction n with
  | zero => exact ⟨fun _ _ _ hF => no_e (r := r) hF, fun _ _ _ hF => no_e (r := r) hF⟩
  | succ n ih => exact ⟨fun x1 h hL hF => t_X12_isleLine_0 E d (g_X12_isleLine n) r ih.2 x1 h hL hF, fun x1 h hL hF => t_X12_isleLine_1 E d (g_X12_isleLine n) r  x1 h hL hF⟩
theorem c_X12_isleLine (d : Nat) (x1 : Int) (h : Hp) (r : Int × Hp) (hL : Lay h) (hF : f_X12_isleLine x1 h = some r) : Sp mX12_isleLine (d + 11) (0, 0) [xr 12 0, xi x1] h (PoV r) :=
  sp_of (by decide) rfl (Nat.le_of_ble_eq_true rfl) (ls := [some (xr 12 0), some (xi x1)]) rfl (fun E _ => (u_X12_isleLine E d r FU).1 x1 h hL hF)
theorem dX12_line_0 : decode cX12_line 0 = .ok (.aload_n 0, 1) := by decide +kernel
theorem dX12_line_1 : decode cX12_line 1 = .ok (.getfield 213, 3) := by decide +kernel
theorem dX12_line_4 : decode cX12_line 4 = .ok (.ifCond .ne 12, 3) := by decide +kernel
theorem dX12_line_7 : decode cX12_line 7 = .ok (.aload_n 0, 1) := by decide +kernel
theorem dX12_line_8 : decode cX12_line 8 = .ok (.getfield 223, 3) := by decide +kernel
theorem dX12_line_11 : decode cX12_line 11 = .ok (.bipush 11, 2) := by decide +kernel
theorem dX12_line_13 : decode cX12_line 13 = .ok (.if_icmp .le 9, 3) := by decide +kernel
theorem dX12_line_16 : decode cX12_line 16 = .ok (.aload_n 0, 1) := by decide +kernel
theorem dX12_line_17 : decode cX12_line 17 = .ok (.iconst 1, 1) := by decide +kernel
theorem dX12_line_18 : decode cX12_line 18 = .ok (.invokevirtual 256, 3) := by decide +kernel
theorem dX12_line_21 : decode cX12_line 21 = .ok (.return_, 1) := by decide +kernel
theorem dX12_line_22 : decode cX12_line 22 = .ok (.aload_n 0, 1) := by decide +kernel
theorem dX12_line_23 : decode cX12_line 23 = .ok (.getfield 223, 3) := by decide +kernel
theorem dX12_line_26 : decode cX12_line 26 = .ok (.istore_n 1, 1) := by decide +kernel
theorem dX12_line_27 : decode cX12_line 27 = .ok (.aload_n 0, 1) := by decide +kernel
theorem dX12_line_28 : decode cX12_line 28 = .ok (.iload_n 1, 1) := by decide +kernel
theorem dX12_line_29 : decode cX12_line 29 = .ok (.invokevirtual 279, 3) := by decide +kernel
theorem dX12_line_32 : decode cX12_line 32 = .ok (.ifCond .eq 11, 3) := by decide +kernel
theorem dX12_line_35 : decode cX12_line 35 = .ok (.aload_n 0, 1) := by decide +kernel
theorem dX12_line_36 : decode cX12_line 36 = .ok (.iconst 2, 1) := by decide +kernel
theorem dX12_line_37 : decode cX12_line 37 = .ok (.invokevirtual 256, 3) := by decide +kernel
theorem dX12_line_40 : decode cX12_line 40 = .ok (.goto 67, 3) := by decide +kernel
theorem dX12_line_43 : decode cX12_line 43 = .ok (.iload_n 1, 1) := by decide +kernel
theorem dX12_line_44 : decode cX12_line 44 = .ok (.invokestatic 282, 3) := by decide +kernel
theorem dX12_line_47 : decode cX12_line 47 = .ok (.ifCond .eq 19, 3) := by decide +kernel
theorem dX12_line_50 : decode cX12_line 50 = .ok (.aload_n 0, 1) := by decide +kernel
theorem dX12_line_51 : decode cX12_line 51 = .ok (.iload_n 1, 1) := by decide +kernel
theorem dX12_line_52 : decode cX12_line 52 = .ok (.invokevirtual 285, 3) := by decide +kernel
theorem dX12_line_55 : decode cX12_line 55 = .ok (.ifCond .eq 11, 3) := by decide +kernel
theorem dX12_line_58 : decode cX12_line 58 = .ok (.aload_n 0, 1) := by decide +kernel
theorem dX12_line_59 : decode cX12_line 59 = .ok (.iconst 3, 1) := by decide +kernel
theorem dX12_line_60 : decode cX12_line 60 = .ok (.invokevirtual 256, 3) := by decide +kernel
theorem dX12_line_63 : decode cX12_line 63 = .ok (.goto 44, 3) := by decide +kernel
theorem dX12_line_66 : decode cX12_line 66 = .ok (.iload_n 1, 1) := by decide +kernel
theorem dX12_line_67 : decode cX12_line 67 = .ok (.ifCond .ne 40, 3) := by decide +kernel
theorem dX12_line_70 : decode cX12_line 70 = .ok (.aload_n 0, 1) := by decide +kernel
theorem dX12_line_71 : decode cX12_line 71 = .ok (.iconst 1, 1) := by decide +kernel
theorem dX12_line_72 : decode cX12_line 72 = .ok (.invokevirtual 285, 3) := by decide +kernel
theorem dX12_line_75 : decode cX12_line 75 = .ok (.ifCond .ne 27, 3) := by decide +kernel
theorem dX12_line_78 : decode cX12_line 78 = .ok (.aload_n 0, 1) := by decide +kernel
theorem dX12_line_79 : decode cX12_line 79 = .ok (.iconst 2, 1) := by decide +kernel
theorem dX12_line_80 : decode cX12_line 80 = .ok (.invokevirtual 285, 3) := by decide +kernel
theorem dX12_line_83 : decode cX12_line 83 = .ok (.ifCond .ne 19, 3) := by decide +kernel
theorem dX12_line_86 : decode cX12_line 86 = .ok (.aload_n 0, 1) := by decide +kernel
theorem dX12_line_87 : decode cX12_line 87 = .ok (.iconst 3, 1) := by decide +kernel
theorem dX12_line_88 : decode cX12_line 88 = .ok (.invokevirtual 285, 3) := by decide +kernel
theorem dX12_line_91 : decode cX12_line 91 = .ok (.ifCond .ne 11, 3) := by decide +kernel
theorem dX12_line_94 : decode cX12_line 94 = .ok (.aload_n 0, 1) := by decide +kernel
theorem dX12_line_95 : decode cX12_line 95 = .ok (.iconst 4, 1) := by decide +kernel
theorem dX12_line_96 : decode cX12_line 96 = .ok (.invokevirtual 285, 3) := by decide +kernel
theorem dX12_line_99 : decode cX12_line 99 = .ok (.ifCond .eq 8, 3) := by decide +kernel
theorem dX12_line_102 : decode cX12_line 102 = .ok (.aload_n 0, 1) := by decide +kernel
theorem dX12_line_103 : decode cX12_line 103 = .ok (.iconst 4, 1) := by decide +kernel
theorem dX12_line_104 : decode cX12_line 104 = .ok (.invokevirtual 256, 3) := by decide +kernel
theorem dX12_line_107 : decode cX12_line 107 = .ok (.aload_n 0, 1) := by decide +kernel
theorem dX12_line_108 : decode cX12_line 108 = .ok (.getfield 247, 3) := by decide +kernel
theorem dX12_line_111 : decode cX12_line 111 = .ok (.ifCond .eq 4, 3) := by decide +kernel
theorem dX12_line_114 : decode cX12_line 114 = .ok (.return_, 1) := by decide +kernel
theorem dX12_line_115 : decode cX12_line 115 = .ok (.aload_n 0, 1) := by decide +kernel
theorem dX12_line_116 : decode cX12_line 116 = .ok (.dup, 1) := by decide +kernel
theorem dX12_line_117 : decode cX12_line 117 = .ok (.getfield 276, 3) := by decide +kernel
theorem dX12_line_120 : decode cX12_line 120 = .ok (.iconst 1, 1) := by decide +kernel
theorem dX12_line_121 : decode cX12_line 121 = .ok (.iload_n 1, 1) := by decide +kernel
theorem dX12_line_122 : decode cX12_line 122 = .ok (.ishl, 1) := by decide +kernel
theorem dX12_line_123 : decode cX12_line 123 = .ok (.ior, 1) := by decide +kernel
theorem dX12_line_124 : decode cX12_line 124 = .ok (.putfield 276, 3) := by decide +kernel
theorem dX12_line_127 : decode cX12_line 127 = .ok (.aload_n 0, 1) := by decide +kernel
theorem dX12_line_128 : decode cX12_line 128 = .ok (.invokevirtual 253, 3) := by decide +kernel
theorem dX12_line_131 : decode cX12_line 131 = .ok (.iload_n 1, 1) := by decide +kernel
theorem dX12_line_132 : decode cX12_line 132 = .ok (.tableswitch 296 0 10 #[60, 87, 94, 106, 118, 132, 139, 203, 232, 249, 265], 60) := by decide +kernel
theorem dX12_line_192 : decode cX12_line 192 = .ok (.aload_n 0, 1) := by decide +kernel
theorem dX12_line_193 : decode cX12_line 193 = .ok (.iconst 0, 1) := by decide +kernel
theorem dX12_line_194 : decode cX12_line 194 = .ok (.aload_n 0, 1) := by decide +kernel
theorem dX12_line_195 : decode cX12_line 195 = .ok (.iconst 1, 1) := by decide +kernel
theorem dX12_line_196 : decode cX12_line 196 = .ok (.bipush 8, 2) := by decide +kernel
theorem dX12_line_198 : decode cX12_line 198 = .ok (.invokevirtual 270, 3) := by decide +kernel
theorem dX12_line_201 : decode cX12_line 201 = .ok (.invokevirtual 288, 3) := by decide +kernel
theorem dX12_line_204 : decode cX12_line 204 = .ok (.aload_n 0, 1) := by decide +kernel
theorem dX12_line_205 : decode cX12_line 205 = .ok (.iconst 1, 1) := by decide +kernel
theorem dX12_line_206 : decode cX12_line 206 = .ok (.aload_n 0, 1) := by decide +kernel
theorem dX12_line_207 : decode cX12_line 207 = .ok (.iconst 1, 1) := by decide +kernel
theorem dX12_line_208 : decode cX12_line 208 = .ok (.bipush 8, 2) := by decide +kernel
theorem dX12_line_210 : decode cX12_line 210 = .ok (.invokevirtual 270, 3) := by decide +kernel
theorem dX12_line_213 : decode cX12_line 213 = .ok (.invokevirtual 288, 3) := by decide +kernel
theorem dX12_line_216 : decode cX12_line 216 = .ok (.goto 240, 3) := by decide +kernel
theorem dX12_line_219 : decode cX12_line 219 = .ok (.aload_n 0, 1) := by decide +kernel
theorem dX12_line_220 : decode cX12_line 220 = .ok (.invokevirtual 292, 3) := by decide +kernel
theorem dX12_line_223 : decode cX12_line 223 = .ok (.goto 233, 3) := by decide +kernel
theorem dX12_line_226 : decode cX12_line 226 = .ok (.aload_n 0, 1) := by decide +kernel
theorem dX12_line_227 : decode cX12_line 227 = .ok (.iconst 3, 1) := by decide +kernel
theorem dX12_line_228 : decode cX12_line 228 = .ok (.aload_n 0, 1) := by decide +kernel
theorem dX12_line_229 : decode cX12_line 229 = .ok (.invokevirtual 295, 3) := by decide +kernel
theorem dX12_line_232 : decode cX12_line 232 = .ok (.invokevirtual 288, 3) := by decide +kernel
theorem dX12_line_235 : decode cX12_line 235 = .ok (.goto 221, 3) := by decide +kernel
theorem dX12_line_238 : decode cX12_line 238 = .ok (.aload_n 0, 1) := by decide +kernel
theorem dX12_line_239 : decode cX12_line 239 = .ok (.iconst 4, 1) := by decide +kernel
theorem dX12_line_240 : decode cX12_line 240 = .ok (.aload_n 0, 1) := by decide +kernel
theorem dX12_line_241 : decode cX12_line 241 = .ok (.invokevirtual 295, 3) := by decide +kernel
theorem dX12_line_244 : decode cX12_line 244 = .ok (.invokevirtual 288, 3) := by decide +kernel
theorem dX12_line_247 : decode cX12_line 247 = .ok (.goto 209, 3) := by decide +kernel
theorem dX12_line_250 : decode cX12_line 250 = .ok (.aload_n 0, 1) := by decide +kernel
theorem dX12_line_251 : decode cX12_line 251 = .ok (.iconst 3, 1) := by decide +kernel
theorem dX12_line_252 : decode cX12_line 252 = .ok (.aload_n 0, 1) := by decide +kernel
theorem dX12_line_253 : decode cX12_line 253 = .ok (.iconst 5, 1) := by decide +kernel
theorem dX12_line_254 : decode cX12_line 254 = .ok (.invokevirtual 266, 3) := by decide +kernel
theorem dX12_line_257 : decode cX12_line 257 = .ok (.iadd, 1) := by decide +kernel
theorem dX12_line_258 : decode cX12_line 258 = .ok (.invokevirtual 298, 3) := by decide +kernel
theorem dX12_line_261 : decode cX12_line 261 = .ok (.goto 195, 3) := by decide +kernel
theorem dX12_line_264 : decode cX12_line 264 = .ok (.aload_n 0, 1) := by decide +kernel
theorem dX12_line_265 : decode cX12_line 265 = .ok (.invokevirtual 301, 3) := by decide +kernel
theorem dX12_line_268 : decode cX12_line 268 = .ok (.goto 188, 3) := by decide +kernel
theorem dX12_line_271 : decode cX12_line 271 = .ok (.iconst 4, 1) := by decide +kernel
theorem dX12_line_272 : decode cX12_line 272 = .ok (.aload_n 0, 1) := by decide +kernel
theorem dX12_line_273 : decode cX12_line 273 = .ok (.bipush 7, 2) := by decide +kernel
theorem dX12_line_275 : decode cX12_line 275 = .ok (.invokevirtual 266, 3) := by decide +kernel
theorem dX12_line_278 : decode cX12_line 278 = .ok (.iadd, 1) := by decide +kernel
theorem dX12_line_279 : decode cX12_line 279 = .ok (.istore_n 2, 1) := by decide +kernel
theorem dX12_line_280 : decode cX12_line 280 = .ok (.aload_n 0, 1) := by decide +kernel
theorem dX12_line_281 : decode cX12_line 281 = .ok (.getfield 35, 3) := by decide +kernel
theorem dX12_line_284 : decode cX12_line 284 = .ok (.iload_n 2, 1) := by decide +kernel
theorem dX12_line_285 : decode cX12_line 285 = .ok (.aload_n 0, 1) := by decide +kernel
theorem dX12_line_286 : decode cX12_line 286 = .ok (.iconst 0, 1) := by decide +kernel
theorem dX12_line_287 : decode cX12_line 287 = .ok (.bipush 59, 2) := by decide +kernel
theorem dX12_line_289 : decode cX12_line 289 = .ok (.invokevirtual 270, 3) := by decide +kernel
theorem dX12_line_292 : decode cX12_line 292 = .ok (.iastore, 1) := by decide +kernel
theorem dX12_line_293 : decode cX12_line 293 = .ok (.aload_n 0, 1) := by decide +kernel
theorem dX12_line_294 : decode cX12_line 294 = .ok (.getfield 38, 3) := by decide +kernel
theorem dX12_line_297 : decode cX12_line 297 = .ok (.iload_n 2, 1) := by decide +kernel
theorem dX12_line_298 : decode cX12_line 298 = .ok (.aload_n 0, 1) := by decide +kernel
theorem dX12_line_299 : decode cX12_line 299 = .ok (.iconst 0, 1) := by decide +kernel
theorem dX12_line_300 : decode cX12_line 300 = .ok (.iconst 3, 1) := by decide +kernel
theorem dX12_line_301 : decode cX12_line 301 = .ok (.invokevirtual 270, 3) := by decide +kernel
theorem dX12_line_304 : decode cX12_line 304 = .ok (.iastore, 1) := by decide +kernel
theorem dX12_line_305 : decode cX12_line 305 = .ok (.aload_n 0, 1) := by decide +kernel
theorem dX12_line_306 : decode cX12_line 306 = .ok (.getfield 41, 3) := by decide +kernel
theorem dX12_line_309 : decode cX12_line 309 = .ok (.iload_n 2, 1) := by decide +kernel
theorem dX12_line_310 : decode cX12_line 310 = .ok (.aload_n 0, 1) := by decide +kernel
theorem dX12_line_311 : decode cX12_line 311 = .ok (.iconst 1, 1) := by decide +kernel
theorem dX12_line_312 : decode cX12_line 312 = .ok (.bipush 99, 2) := by decide +kernel
theorem dX12_line_314 : decode cX12_line 314 = .ok (.invokevirtual 270, 3) := by decide +kernel
theorem dX12_line_317 : decode cX12_line 317 = .ok (.iastore, 1) := by decide +kernel
theorem dX12_line_318 : decode cX12_line 318 = .ok (.aload_n 0, 1) := by decide +kernel
theorem dX12_line_319 : decode cX12_line 319 = .ok (.bipush 7, 2) := by decide +kernel
theorem dX12_line_321 : decode cX12_line 321 = .ok (.aload_n 0, 1) := by decide +kernel
theorem dX12_line_322 : decode cX12_line 322 = .ok (.bipush 7, 2) := by decide +kernel
theorem dX12_line_324 : decode cX12_line 324 = .ok (.invokevirtual 266, 3) := by decide +kernel
theorem dX12_line_327 : decode cX12_line 327 = .ok (.iconst 1, 1) := by decide +kernel
theorem dX12_line_328 : decode cX12_line 328 = .ok (.iadd, 1) := by decide +kernel
theorem dX12_line_329 : decode cX12_line 329 = .ok (.invokevirtual 288, 3) := by decide +kernel
theorem dX12_line_332 : decode cX12_line 332 = .ok (.goto 124, 3) := by decide +kernel
theorem dX12_line_335 : decode cX12_line 335 = .ok (.aload_n 0, 1) := by decide +kernel
theorem dX12_line_336 : decode cX12_line 336 = .ok (.bipush 8, 2) := by decide +kernel
theorem dX12_line_338 : decode cX12_line 338 = .ok (.aload_n 0, 1) := by decide +kernel
theorem dX12_line_339 : decode cX12_line 339 = .ok (.iconst 0, 1) := by decide +kernel
theorem dX12_line_340 : decode cX12_line 340 = .ok (.bipush 99, 2) := by decide +kernel
theorem dX12_line_342 : decode cX12_line 342 = .ok (.invokevirtual 270, 3) := by decide +kernel
theorem dX12_line_345 : decode cX12_line 345 = .ok (.invokevirtual 288, 3) := by decide +kernel
theorem dX12_line_348 : decode cX12_line 348 = .ok (.aload_n 0, 1) := by decide +kernel
theorem dX12_line_349 : decode cX12_line 349 = .ok (.bipush 9, 2) := by decide +kernel
theorem dX12_line_351 : decode cX12_line 351 = .ok (.aload_n 0, 1) := by decide +kernel
theorem dX12_line_352 : decode cX12_line 352 = .ok (.iconst 1, 1) := by decide +kernel
theorem dX12_line_353 : decode cX12_line 353 = .ok (.bipush 99, 2) := by decide +kernel
theorem dX12_line_355 : decode cX12_line 355 = .ok (.invokevirtual 270, 3) := by decide +kernel
theorem dX12_line_358 : decode cX12_line 358 = .ok (.invokevirtual 288, 3) := by decide +kernel
theorem dX12_line_361 : decode cX12_line 361 = .ok (.goto 95, 3) := by decide +kernel
theorem dX12_line_364 : decode cX12_line 364 = .ok (.aload_n 0, 1) := by decide +kernel
theorem dX12_line_365 : decode cX12_line 365 = .ok (.bipush 10, 2) := by decide +kernel
theorem dX12_line_367 : decode cX12_line 367 = .ok (.aload_n 0, 1) := by decide +kernel
theorem dX12_line_368 : decode cX12_line 368 = .ok (.iconst 0, 1) := by decide +kernel
theorem dX12_line_369 : decode cX12_line 369 = .ok (.sipush 9999, 3) := by decide +kernel
theorem dX12_line_372 : decode cX12_line 372 = .ok (.invokevirtual 270, 3) := by decide +kernel
theorem dX12_line_375 : decode cX12_line 375 = .ok (.invokevirtual 288, 3) := by decide +kernel
theorem dX12_line_378 : decode cX12_line 378 = .ok (.goto 78, 3) := by decide +kernel
theorem dX12_line_381 : decode cX12_line 381 = .ok (.aload_n 0, 1) := by decide +kernel
theorem dX12_line_382 : decode cX12_line 382 = .ok (.bipush 11, 2) := by decide +kernel
theorem dX12_line_384 : decode cX12_line 384 = .ok (.aload_n 0, 1) := by decide +kernel
theorem dX12_line_385 : decode cX12_line 385 = .ok (.iconst 0, 1) := by decide +kernel
theorem dX12_line_386 : decode cX12_line 386 = .ok (.ldc 232, 2) := by decide +kernel
theorem dX12_line_388 : decode cX12_line 388 = .ok (.invokevirtual 270, 3) := by decide +kernel
theorem dX12_line_391 : decode cX12_line 391 = .ok (.invokevirtual 288, 3) := by decide +kernel
theorem dX12_line_394 : decode cX12_line 394 = .ok (.goto 62, 3) := by decide +kernel
theorem dX12_line_397 : decode cX12_line 397 = .ok (.aload_n 0, 1) := by decide +kernel
theorem dX12_line_398 : decode cX12_line 398 = .ok (.bipush 9, 2) := by decide +kernel
theorem dX12_line_400 : decode cX12_line 400 = .ok (.aload_n 0, 1) := by decide +kernel
theorem dX12_line_401 : decode cX12_line 401 = .ok (.bipush 12, 2) := by decide +kernel
theorem dX12_line_403 : decode cX12_line 403 = .ok (.invokevirtual 266, 3) := by decide +kernel
theorem dX12_line_406 : decode cX12_line 406 = .ok (.iadd, 1) := by decide +kernel
theorem dX12_line_407 : decode cX12_line 407 = .ok (.iconst 0, 1) := by decide +kernel
theorem dX12_line_408 : decode cX12_line 408 = .ok (.invokevirtual 304, 3) := by decide +kernel
theorem dX12_line_411 : decode cX12_line 411 = .ok (.aload_n 0, 1) := by decide +kernel
theorem dX12_line_412 : decode cX12_line 412 = .ok (.bipush 12, 2) := by decide +kernel
theorem dX12_line_414 : decode cX12_line 414 = .ok (.aload_n 0, 1) := by decide +kernel
theorem dX12_line_415 : decode cX12_line 415 = .ok (.bipush 12, 2) := by decide +kernel
theorem dX12_line_417 : decode cX12_line 417 = .ok (.invokevirtual 266, 3) := by decide +kernel
theorem dX12_line_420 : decode cX12_line 420 = .ok (.iconst 1, 1) := by decide +kernel
theorem dX12_line_421 : decode cX12_line 421 = .ok (.iadd, 1) := by decide +kernel
theorem dX12_line_422 : decode cX12_line 422 = .ok (.invokevirtual 288, 3) := by decide +kernel
theorem dX12_line_425 : decode cX12_line 425 = .ok (.goto 31, 3) := by decide +kernel
theorem dX12_line_428 : decode cX12_line 428 = .ok (.aload_n 0, 1) := by decide +kernel
theorem dX12_line_429 : decode cX12_line 429 = .ok (.bipush 14, 2) := by decide +kernel
theorem dX12_line_431 : decode cX12_line 431 = .ok (.aload_n 0, 1) := by decide +kernel
theorem dX12_line_432 : decode cX12_line 432 = .ok (.bipush 13, 2) := by decide +kernel
theorem dX12_line_434 : decode cX12_line 434 = .ok (.invokevirtual 266, 3) := by decide +kernel
theorem dX12_line_437 : decode cX12_line 437 = .ok (.iadd, 1) := by decide +kernel
theorem dX12_line_438 : decode cX12_line 438 = .ok (.iconst 1, 1) := by decide +kernel
theorem dX12_line_439 : decode cX12_line 439 = .ok (.invokevirtual 304, 3) := by decide +kernel
theorem dX12_line_442 : decode cX12_line 442 = .ok (.aload_n 0, 1) := by decide +kernel
theorem dX12_line_443 : decode cX12_line 443 = .ok (.bipush 13, 2) := by decide +kernel
theorem dX12_line_445 : decode cX12_line 445 = .ok (.aload_n 0, 1) := by decide +kernel
theorem dX12_line_446 : decode cX12_line 446 = .ok (.bipush 13, 2) := by decide +kernel
theorem dX12_line_448 : decode cX12_line 448 = .ok (.invokevirtual 266, 3) := by decide +kernel
theorem dX12_line_451 : decode cX12_line 451 = .ok (.iconst 1, 1) := by decide +kernel
theorem dX12_line_452 : decode cX12_line 452 = .ok (.iadd, 1) := by decide +kernel
theorem dX12_line_453 : decode cX12_line 453 = .ok (.invokevirtual 288, 3) := by decide +kernel
theorem dX12_line_456 : decode cX12_line 456 = .ok (.aload_n 0, 1) := by decide +kernel
theorem dX12_line_457 : decode cX12_line 457 = .ok (.getfield 247, 3) := by decide +kernel
theorem dX12_line_460 : decode cX12_line 460 = .ok (.ifCond .eq 4, 3) := by decide +kernel
theorem dX12_line_463 : decode cX12_line 463 = .ok (.return_, 1) := by decide +kernel
theorem dX12_line_464 : decode cX12_line 464 = .ok (.aload_n 0, 1) := by decide +kernel
theorem dX12_line_465 : decode cX12_line 465 = .ok (.bipush 59, 2) := by decide +kernel
theorem dX12_line_467 : decode cX12_line 467 = .ok (.invokevirtual 308, 3) := by decide +kernel
theorem dX12_line_470 : decode cX12_line 470 = .ok (.ifCond .ne 11, 3) := by decide +kernel
theorem dX12_line_473 : decode cX12_line 473 = .ok (.aload_n 0, 1) := by decide +kernel
theorem dX12_line_474 : decode cX12_line 474 = .ok (.iconst 1, 1) := by decide +kernel
theorem dX12_line_475 : decode cX12_line 475 = .ok (.invokevirtual 256, 3) := by decide +kernel
theorem dX12_line_478 : decode cX12_line 478 = .ok (.goto 7, 3) := by decide +kernel
theorem dX12_line_481 : decode cX12_line 481 = .ok (.aload_n 0, 1) := by decide +kernel
theorem dX12_line_482 : decode cX12_line 482 = .ok (.invokevirtual 253, 3) := by decide +kernel
theorem dX12_line_485 : decode cX12_line 485 = .ok (.aload_n 0, 1) := by decide +kernel
theorem dX12_line_486 : decode cX12_line 486 = .ok (.dup, 1) := by decide +kernel
theorem dX12_line_487 : decode cX12_line 487 = .ok (.getfield 311, 3) := by decide +kernel
theorem dX12_line_490 : decode cX12_line 490 = .ok (.iconst 1, 1) := by decide +kernel
theorem dX12_line_491 : decode cX12_line 491 = .ok (.iadd, 1) := by decide +kernel
theorem dX12_line_492 : decode cX12_line 492 = .ok (.putfield 311, 3) := by decide +kernel
theorem dX12_line_495 : decode cX12_line 495 = .ok (.return_, 1) := by decide +kernel
noncomputable def b_X12_line_0 (rec : Rk) (h : Hp) : Option (Int × Hp) :=
  if (gI h 12 0 30) = 0 then (
    if (gI h 12 0 31) ≤ 11 then (
      lt (gI h 12 0 31) fun z1 =>
      bd (f_X12_isFull z1 h) fun v2 h3 =>
      if v2 = 0 then (
        bd (f_X12_isOnce z1 h3) fun v4 h5 =>
        if v4 = 0 then (
          rec 2 [z1] h5
        ) else (
          bd (f_X12_isTold z1 h5) fun v6 h7 =>
          if v6 = 0 then (
            rec 2 [z1] h7
          ) else (
            bd (f_X12_wrong 3 h7) fun v8 h9 =>
            rec 4 [z1] h9
          )
        )
      ) else (
        bd (f_X12_wrong 2 h3) fun v10 h11 =>
        rec 4 [z1] h11
      )
    ) else (
      rec 1 [] h
    )
  ) else (
    rec 1 [] h
  )
noncomputable def b_X12_line_1 (rec : Rk) (h : Hp) : Option (Int × Hp) :=
  bd (f_X12_wrong 1 h) fun v1 h2 =>
  some (0, h2)
noncomputable def b_X12_line_2 (rec : Rk) (x1 : Int) (h : Hp) : Option (Int × Hp) :=
  if x1 = 0 then (
    bd (f_X12_isTold 1 h) fun v1 h2 =>
    if v1 = 0 then (
      bd (f_X12_isTold 2 h2) fun v3 h4 =>
      if v3 = 0 then (
        bd (f_X12_isTold 3 h4) fun v5 h6 =>
        if v5 = 0 then (
          bd (f_X12_isTold 4 h6) fun v7 h8 =>
          if v7 = 0 then (
            rec 4 [x1] h8
          ) else (
            rec 3 [x1] h8
          )
        ) else (
          rec 3 [x1] h6
        )
      ) else (
        rec 3 [x1] h4
      )
    ) else (
      rec 3 [x1] h2
    )
  ) else (
    rec 4 [x1] h
  )
noncomputable def b_X12_line_3 (rec : Rk) (x1 : Int) (h : Hp) : Option (Int × Hp) :=
  bd (f_X12_wrong 4 h) fun v1 h2 =>
  rec 4 [x1] h2
noncomputable def b_X12_line_4 (rec : Rk) (x1 : Int) (h : Hp) : Option (Int × Hp) :=
  if (gI h 12 0 32) = 0 then (
    lt (sI h 12 0 25 (bor (gI h 12 0 25) (bshl 1 x1))) fun h1 =>
    bd (f_X12_token h1) fun v2 h3 =>
    if x1 = 0 then (
      bd (f_X12_numeral 1 8 h3) fun v4 h5 =>
      bd (f_X12_reads 0 v4 h5) fun v6 h7 =>
      bd (f_X12_numeral 1 8 h7) fun v8 h9 =>
      bd (f_X12_reads 1 v8 h9) fun v10 h11 =>
      rec 5 [] h11
    ) else (
    if x1 = 1 then (
      bd (f_X12_landLine h3) fun v12 h13 =>
      rec 5 [] h13
    ) else (
    if x1 = 2 then (
      bd (f_X12_water h3) fun v14 h15 =>
      bd (f_X12_reads 3 v14 h15) fun v16 h17 =>
      rec 5 [] h17
    ) else (
    if x1 = 3 then (
      bd (f_X12_water h3) fun v18 h19 =>
      bd (f_X12_reads 4 v18 h19) fun v20 h21 =>
      rec 5 [] h21
    ) else (
    if x1 = 4 then (
      bd (f_X12_fresher 5 h3) fun v22 h23 =>
      ck (-2147483648 ≤ 3 + v22 ∧ 3 + v22 < 2147483648) <|
      bd (f_X12_isleLine (3 + v22) h23) fun v24 h25 =>
      rec 5 [] h25
    ) else (
    if x1 = 5 then (
      bd (f_X12_windLine h3) fun v26 h27 =>
      rec 5 [] h27
    ) else (
    if x1 = 6 then (
      bd (f_X12_fresher 7 h3) fun v28 h29 =>
      ck (-2147483648 ≤ 4 + v28 ∧ 4 + v28 < 2147483648) <|
      lt (4 + v28) fun z30 =>
      bd (f_X12_numeral 0 59 h29) fun v31 h32 =>
      ck (0 ≤ z30 ∧ z30 < 8) <|
      lt (sI h32 68 0 z30 v31) fun h33 =>
      bd (f_X12_numeral 0 3 h33) fun v34 h35 =>
      ck (0 ≤ z30 ∧ z30 < 8) <|
      lt (sI h35 69 0 z30 v34) fun h36 =>
      bd (f_X12_numeral 1 99 h36) fun v37 h38 =>
      ck (0 ≤ z30 ∧ z30 < 8) <|
      lt (sI h38 70 0 z30 v37) fun h39 =>
      bd (f_X12_fresher 7 h39) fun v40 h41 =>
      ck (-2147483648 ≤ v40 + 1 ∧ v40 + 1 < 2147483648) <|
      bd (f_X12_reads 7 (v40 + 1) h41) fun v42 h43 =>
      rec 5 [] h43
    ) else (
    if x1 = 7 then (
      bd (f_X12_numeral 0 99 h3) fun v44 h45 =>
      bd (f_X12_reads 8 v44 h45) fun v46 h47 =>
      bd (f_X12_numeral 1 99 h47) fun v48 h49 =>
      bd (f_X12_reads 9 v48 h49) fun v50 h51 =>
      rec 5 [] h51
    ) else (
    if x1 = 8 then (
      bd (f_X12_numeral 0 9999 h3) fun v52 h53 =>
      bd (f_X12_reads 10 v52 h53) fun v54 h55 =>
      rec 5 [] h55
    ) else (
    if x1 = 9 then (
      bd (f_X12_numeral 0 99999 h3) fun v56 h57 =>
      bd (f_X12_reads 11 v56 h57) fun v58 h59 =>
      rec 5 [] h59
    ) else (
    if x1 = 10 then (
      bd (f_X12_fresher 12 h3) fun v60 h61 =>
      ck (-2147483648 ≤ 9 + v60 ∧ 9 + v60 < 2147483648) <|
      bd (f_X12_mouthLine (9 + v60) 0 h61) fun v62 h63 =>
      bd (f_X12_fresher 12 h63) fun v64 h65 =>
      ck (-2147483648 ≤ v64 + 1 ∧ v64 + 1 < 2147483648) <|
      bd (f_X12_reads 12 (v64 + 1) h65) fun v66 h67 =>
      rec 5 [] h67
    ) else (
    bd (f_X12_fresher 13 h3) fun v68 h69 =>
    ck (-2147483648 ≤ 14 + v68 ∧ 14 + v68 < 2147483648) <|
    bd (f_X12_mouthLine (14 + v68) 1 h69) fun v70 h71 =>
    bd (f_X12_fresher 13 h71) fun v72 h73 =>
    ck (-2147483648 ≤ v72 + 1 ∧ v72 + 1 < 2147483648) <|
    bd (f_X12_reads 13 (v72 + 1) h73) fun v74 h75 =>
    rec 5 [] h75
    )
    )
    )
    )
    )
    )
    )
    )
    )
    )
    )
  ) else (
    some (0, h)
  )
noncomputable def b_X12_line_5 (rec : Rk) (h : Hp) : Option (Int × Hp) :=
  if (gI h 12 0 32) = 0 then (
    bd (f_X12_isSign 59 h) fun v1 h2 =>
    if v1 = 0 then (
      bd (f_X12_wrong 1 h2) fun v3 h4 =>
      rec 6 [] h4
    ) else (
      bd (f_X12_token h2) fun v5 h6 =>
      rec 6 [] h6
    )
  ) else (
    some (0, h)
  )
noncomputable def b_X12_line_6 (rec : Rk) (h : Hp) : Option (Int × Hp) :=
  ck (-2147483648 ≤ (gI h 12 0 26) + 1 ∧ (gI h 12 0 26) + 1 < 2147483648) <|
  lt (sI h 12 0 26 ((gI h 12 0 26) + 1)) fun h1 =>
  some (0, h1)
noncomputable def g_X12_line (n : Nat) : Rk := Nat.rec (motive := fun _ => Rk) (fun _ _ _ => none) (fun _ rec k l h => if k = 0 then b_X12_line_0 rec  h else if k = 1 then b_X12_line_1 rec  h else if k = 2 then b_X12_line_2 rec (l.getD 0 0) h else if k = 3 then b_X12_line_3 rec (l.getD 0 0) h else if k = 4 then b_X12_line_4 rec (l.getD 0 0) h else if k = 5 then b_X12_line_5 rec  h else if k = 6 then b_X12_line_6 rec  h else none) n
noncomputable def f_X12_line (h : Hp) : Option (Int × Hp) := g_X12_line FU 0 [] h
set_option maxHeartbeats 4000000 in
set_option maxRecDepth 100000 in
theorem t_X12_line_0 (E : xE) (d : Nat) (rec : Rk) (r : Int × Hp) (hr_16 : ∀ (h : Hp), Lay h → rec 1 [] h = some r → X E mX12_line (d + 1009) (0, 0) (0, 0) 16 [some (xr 12 0), none, none] [] h (PoV r)) (hr_66 : ∀ (x1 : Int) (h : Hp), Lay h → rec 2 [x1] h = some r → X E mX12_line (d + 1009) (0, 0) (0, 0) 66 [some (xr 12 0), some (xi x1), none] [] h (PoV r)) (hr_107 : ∀ (x1 : Int) (h : Hp), Lay h → rec 4 [x1] h = some r → X E mX12_line (d + 1009) (0, 0) (0, 0) 107 [some (xr 12 0), some (xi x1), none] [] h (PoV r)) (h : Hp) (hL : Lay h) (hF : b_X12_line_0 rec  h = some r) : X E mX12_line (d + 1009) (0, 0) (0, 0) 0 [some (xr 12 0), none, none] [] h (PoV r) := by
  unfold b_X12_line_0 at hF
  refine x_aload_n (i := 0) (b := 1) dX12_line_0 rfl rfl rfl ?_
  refine x_getI (v := gI h 12 0 30) (b := 4) fk_X12_213 dX12_line_1 (by decide) rfl rfl ?_
  refine x_if_ne (tgt := 16) (b := 7) dX12_line_4 (by decide) rfl (fun hc => ?_) (fun hc => ?_)
  · replace hF := br_F hc hF
    exact x_dp (ls2 := [some (xr 12 0), none, none]) ⟨rfl, trivial⟩ (hr_16  h hL hF)
  · replace hF := br_T hc hF
    refine x_aload_n (i := 0) (b := 8) dX12_line_7 rfl rfl rfl ?_
    refine x_getI (v := gI h 12 0 31) (b := 11) fk_X12_223 dX12_line_8 (by decide) rfl rfl ?_
    refine x_bipush (n := 11) (b := 13) dX12_line_11 (by decide) rfl ?_
    refine x_icmp_le (tgt := 22) (b := 16) dX12_line_13 (by decide) rfl (fun hc => ?_) (fun hc => ?_)
    · replace hF := br_T hc hF
      refine x_aload_n (i := 0) (b := 23) dX12_line_22 rfl rfl rfl ?_
      refine x_getI (v := gI h 12 0 31) (b := 26) fk_X12_223 dX12_line_23 (by decide) rfl rfl ?_
      obtain ⟨z1, e_z1, hF⟩ := lt_e hF
      refine x_eq (y := z1) e_z1 ?_
      refine x_istore_n (i := 1) (b := 27) (ls2 := [some (xr 12 0), some (xi z1), none]) dX12_line_26 rfl (Nat.le_of_ble_eq_true rfl) rfl rfl ?_
      refine x_aload_n (i := 0) (b := 28) dX12_line_27 rfl rfl rfl ?_
      refine x_iload_n (i := 1) (b := 29) dX12_line_28 rfl rfl rfl ?_
      obtain ⟨v2, h3, hq, hF⟩ := bd_e hF
      refine x_callV (as := [xi z1]) (rest := []) (b := 32) (c_X12_isFull (d + 1006) z1 h _ hL hq) dX12_line_29 cw_X12_279 ⟨_, _, rfl, Nat.le_of_ble_eq_true rfl⟩ rfl rfl (Nat.le_of_ble_eq_true rfl) ⟨Nat.le_refl _, Nat.le_refl _⟩ rfl (fun rv hh hp _ => ?_)
      obtain ⟨rfl, rfl, hL⟩ := hp
      refine x_if_eq (tgt := 43) (b := 35) dX12_line_32 (by decide) rfl (fun hc => ?_) (fun hc => ?_)
      · replace hF := br_T hc hF
        refine x_iload_n (i := 1) (b := 44) dX12_line_43 rfl rfl rfl ?_
        obtain ⟨v4, h5, hq, hF⟩ := bd_e hF
        refine x_callS (as := [xi z1]) (rest := []) (b := 47) (c_X12_isOnce (d + 1007) z1 h3 _ hL hq) dX12_line_44 cw_X12_282 rfl rfl (Nat.le_of_ble_eq_true rfl) ⟨Nat.le_refl _, Nat.le_refl _⟩ rfl (fun rv hh hp _ => ?_)
        obtain ⟨rfl, rfl, hL⟩ := hp
        refine x_if_eq (tgt := 66) (b := 50) dX12_line_47 (by decide) rfl (fun hc => ?_) (fun hc => ?_)
        · replace hF := br_T hc hF
          exact x_dp (ls2 := [some (xr 12 0), some (xi z1), none]) ⟨rfl, rfl, trivial⟩ (hr_66 z1 h5 hL hF)
        · replace hF := br_F hc hF
          refine x_aload_n (i := 0) (b := 51) dX12_line_50 rfl rfl rfl ?_
          refine x_iload_n (i := 1) (b := 52) dX12_line_51 rfl rfl rfl ?_
          obtain ⟨v6, h7, hq, hF⟩ := bd_e hF
          refine x_callV (as := [xi z1]) (rest := []) (b := 55) (c_X12_isTold (d + 1007) z1 h5 _ hL hq) dX12_line_52 cw_X12_285 ⟨_, _, rfl, Nat.le_of_ble_eq_true rfl⟩ rfl rfl (Nat.le_of_ble_eq_true rfl) ⟨Nat.le_refl _, Nat.le_refl _⟩ rfl (fun rv hh hp _ => ?_)
          obtain ⟨rfl, rfl, hL⟩ := hp
          refine x_if_eq (tgt := 66) (b := 58) dX12_line_55 (by decide) rfl (fun hc => ?_) (fun hc => ?_)
          · replace hF := br_T hc hF
            exact x_dp (ls2 := [some (xr 12 0), some (xi z1), none]) ⟨rfl, rfl, trivial⟩ (hr_66 z1 h7 hL hF)
          · replace hF := br_F hc hF
            refine x_aload_n (i := 0) (b := 59) dX12_line_58 rfl rfl rfl ?_
            refine x_iconst (n := 3) (b := 60) dX12_line_59 (by decide) rfl ?_
            obtain ⟨v8, h9, hq, hF⟩ := bd_e hF
            refine x_callV (as := [xi 3]) (rest := []) (b := 63) (c_X12_wrong (d + 1007) 3 h7 _ hL hq) dX12_line_60 cw_X12_256 ⟨_, _, rfl, Nat.le_of_ble_eq_true rfl⟩ rfl rfl (Nat.le_of_ble_eq_true rfl) ⟨Nat.le_refl _, Nat.le_refl _⟩ rfl (fun rv hh hp _ => ?_)
            obtain ⟨rfl, rfl, hL⟩ := hp
            refine x_goto (tgt := 107) dX12_line_63 (by decide) ?_
            exact x_dp (ls2 := [some (xr 12 0), some (xi z1), none]) ⟨rfl, rfl, trivial⟩ (hr_107 z1 h9 hL hF)
      · replace hF := br_F hc hF
        refine x_aload_n (i := 0) (b := 36) dX12_line_35 rfl rfl rfl ?_
        refine x_iconst (n := 2) (b := 37) dX12_line_36 (by decide) rfl ?_
        obtain ⟨v10, h11, hq, hF⟩ := bd_e hF
        refine x_callV (as := [xi 2]) (rest := []) (b := 40) (c_X12_wrong (d + 1007) 2 h3 _ hL hq) dX12_line_37 cw_X12_256 ⟨_, _, rfl, Nat.le_of_ble_eq_true rfl⟩ rfl rfl (Nat.le_of_ble_eq_true rfl) ⟨Nat.le_refl _, Nat.le_refl _⟩ rfl (fun rv hh hp _ => ?_)
        obtain ⟨rfl, rfl, hL⟩ := hp
        refine x_goto (tgt := 107) dX12_line_40 (by decide) ?_
        exact x_dp (ls2 := [some (xr 12 0), some (xi z1), none]) ⟨rfl, rfl, trivial⟩ (hr_107 z1 h11 hL hF)
    · replace hF := br_F hc hF
      exact x_dp (ls2 := [some (xr 12 0), none, none]) ⟨rfl, trivial⟩ (hr_16  h hL hF)
set_option maxHeartbeats 4000000 in
set_option maxRecDepth 100000 in
theorem t_X12_line_1 (E : xE) (d : Nat) (rec : Rk) (r : Int × Hp) (h : Hp) (hL : Lay h) (hF : b_X12_line_1 rec  h = some r) : X E mX12_line (d + 1009) (0, 0) (0, 0) 16 [some (xr 12 0), none, none] [] h (PoV r) := by
  unfold b_X12_line_1 at hF
  refine x_aload_n (i := 0) (b := 17) dX12_line_16 rfl rfl rfl ?_
  refine x_iconst (n := 1) (b := 18) dX12_line_17 (by decide) rfl ?_
  obtain ⟨v1, h2, hq, hF⟩ := bd_e hF
  refine x_callV (as := [xi 1]) (rest := []) (b := 21) (c_X12_wrong (d + 1007) 1 h _ hL hq) dX12_line_18 cw_X12_256 ⟨_, _, rfl, Nat.le_of_ble_eq_true rfl⟩ rfl rfl (Nat.le_of_ble_eq_true rfl) ⟨Nat.le_refl _, Nat.le_refl _⟩ rfl (fun rv hh hp _ => ?_)
  obtain ⟨rfl, rfl, hL⟩ := hp
  refine x_return dX12_line_21 rfl ⟨Nat.le_refl _, Nat.le_refl _⟩ ?_
  cases hF
  exact ⟨rfl, rfl, hL⟩
set_option maxHeartbeats 4000000 in
set_option maxRecDepth 100000 in
theorem t_X12_line_2 (E : xE) (d : Nat) (rec : Rk) (r : Int × Hp) (hr_102 : ∀ (x1 : Int) (h : Hp), Lay h → rec 3 [x1] h = some r → X E mX12_line (d + 1009) (0, 0) (0, 0) 102 [some (xr 12 0), some (xi x1), none] [] h (PoV r)) (hr_107 : ∀ (x1 : Int) (h : Hp), Lay h → rec 4 [x1] h = some r → X E mX12_line (d + 1009) (0, 0) (0, 0) 107 [some (xr 12 0), some (xi x1), none] [] h (PoV r)) (x1 : Int) (h : Hp) (hL : Lay h) (hF : b_X12_line_2 rec x1 h = some r) : X E mX12_line (d + 1009) (0, 0) (0, 0) 66 [some (xr 12 0), some (xi x1), none] [] h (PoV r) := by
  unfold b_X12_line_2 at hF
  refine x_iload_n (i := 1) (b := 67) dX12_line_66 rfl rfl rfl ?_
  refine x_if_ne (tgt := 107) (b := 70) dX12_line_67 (by decide) rfl (fun hc => ?_) (fun hc => ?_)
  · replace hF := br_F hc hF
    exact x_dp (ls2 := [some (xr 12 0), some (xi x1), none]) ⟨rfl, rfl, trivial⟩ (hr_107 x1 h hL hF)
  · replace hF := br_T hc hF
    refine x_aload_n (i := 0) (b := 71) dX12_line_70 rfl rfl rfl ?_
    refine x_iconst (n := 1) (b := 72) dX12_line_71 (by decide) rfl ?_
    obtain ⟨v1, h2, hq, hF⟩ := bd_e hF
    refine x_callV (as := [xi 1]) (rest := []) (b := 75) (c_X12_isTold (d + 1007) 1 h _ hL hq) dX12_line_72 cw_X12_285 ⟨_, _, rfl, Nat.le_of_ble_eq_true rfl⟩ rfl rfl (Nat.le_of_ble_eq_true rfl) ⟨Nat.le_refl _, Nat.le_refl _⟩ rfl (fun rv hh hp _ => ?_)
    obtain ⟨rfl, rfl, hL⟩ := hp
    refine x_if_ne (tgt := 102) (b := 78) dX12_line_75 (by decide) rfl (fun hc => ?_) (fun hc => ?_)
    · replace hF := br_F hc hF
      exact x_dp (ls2 := [some (xr 12 0), some (xi x1), none]) ⟨rfl, rfl, trivial⟩ (hr_102 x1 h2 hL hF)
    · replace hF := br_T hc hF
      refine x_aload_n (i := 0) (b := 79) dX12_line_78 rfl rfl rfl ?_
      refine x_iconst (n := 2) (b := 80) dX12_line_79 (by decide) rfl ?_
      obtain ⟨v3, h4, hq, hF⟩ := bd_e hF
      refine x_callV (as := [xi 2]) (rest := []) (b := 83) (c_X12_isTold (d + 1007) 2 h2 _ hL hq) dX12_line_80 cw_X12_285 ⟨_, _, rfl, Nat.le_of_ble_eq_true rfl⟩ rfl rfl (Nat.le_of_ble_eq_true rfl) ⟨Nat.le_refl _, Nat.le_refl _⟩ rfl (fun rv hh hp _ => ?_)
      obtain ⟨rfl, rfl, hL⟩ := hp
      refine x_if_ne (tgt := 102) (b := 86) dX12_line_83 (by decide) rfl (fun hc => ?_) (fun hc => ?_)
      · replace hF := br_F hc hF
        exact x_dp (ls2 := [some (xr 12 0), some (xi x1), none]) ⟨rfl, rfl, trivial⟩ (hr_102 x1 h4 hL hF)
      · replace hF := br_T hc hF
        refine x_aload_n (i := 0) (b := 87) dX12_line_86 rfl rfl rfl ?_
        refine x_iconst (n := 3) (b := 88) dX12_line_87 (by decide) rfl ?_
        obtain ⟨v5, h6, hq, hF⟩ := bd_e hF
        refine x_callV (as := [xi 3]) (rest := []) (b := 91) (c_X12_isTold (d + 1007) 3 h4 _ hL hq) dX12_line_88 cw_X12_285 ⟨_, _, rfl, Nat.le_of_ble_eq_true rfl⟩ rfl rfl (Nat.le_of_ble_eq_true rfl) ⟨Nat.le_refl _, Nat.le_refl _⟩ rfl (fun rv hh hp _ => ?_)
        obtain ⟨rfl, rfl, hL⟩ := hp
        refine x_if_ne (tgt := 102) (b := 94) dX12_line_91 (by decide) rfl (fun hc => ?_) (fun hc => ?_)
        · replace hF := br_F hc hF
          exact x_dp (ls2 := [some (xr 12 0), some (xi x1), none]) ⟨rfl, rfl, trivial⟩ (hr_102 x1 h6 hL hF)
        · replace hF := br_T hc hF
          refine x_aload_n (i := 0) (b := 95) dX12_line_94 rfl rfl rfl ?_
          refine x_iconst (n := 4) (b := 96) dX12_line_95 (by decide) rfl ?_
          obtain ⟨v7, h8, hq, hF⟩ := bd_e hF
          refine x_callV (as := [xi 4]) (rest := []) (b := 99) (c_X12_isTold (d + 1007) 4 h6 _ hL hq) dX12_line_96 cw_X12_285 ⟨_, _, rfl, Nat.le_of_ble_eq_true rfl⟩ rfl rfl (Nat.le_of_ble_eq_true rfl) ⟨Nat.le_refl _, Nat.le_refl _⟩ rfl (fun rv hh hp _ => ?_)
          obtain ⟨rfl, rfl, hL⟩ := hp
          refine x_if_eq (tgt := 107) (b := 102) dX12_line_99 (by decide) rfl (fun hc => ?_) (fun hc => ?_)
          · replace hF := br_T hc hF
            exact x_dp (ls2 := [some (xr 12 0), some (xi x1), none]) ⟨rfl, rfl, trivial⟩ (hr_107 x1 h8 hL hF)
          · replace hF := br_F hc hF
            exact x_dp (ls2 := [some (xr 12 0), some (xi x1), none]) ⟨rfl, rfl, trivial⟩ (hr_102 x1 h8 hL hF)
set_option maxHeartbeats 4000000 in
set_option maxRecDepth 100000 in
theorem t_X12_line_3 (E : xE) (d : Nat) (rec : Rk) (r : Int × Hp) (hr_107 : ∀ (x1 : Int) (h : Hp), Lay h → rec 4 [x1] h = some r → X E mX12_line (d + 1009) (0, 0) (0, 0) 107 [some (xr 12 0), some (xi x1), none] [] h (PoV r)) (x1 : Int) (h : Hp) (hL : Lay h) (hF : b_X12_line_3 rec x1 h = some r) : X E mX12_line (d + 1009) (0, 0) (0, 0) 102 [some (xr 12 0), some (xi x1), none] [] h (PoV r) := by
  unfold b_X12_line_3 at hF
  refine x_aload_n (i := 0) (b := 103) dX12_line_102 rfl rfl rfl ?_
  refine x_iconst (n := 4) (b := 104) dX12_line_103 (by decide) rfl ?_
  obtain ⟨v1, h2, hq, hF⟩ := bd_e hF
  refine x_callV (as := [xi 4]) (rest := []) (b := 107) (c_X12_wrong (d + 1007) 4 h _ hL hq) dX12_line_104 cw_X12_256 ⟨_, _, rfl, Nat.le_of_ble_eq_true rfl⟩ rfl rfl (Nat.le_of_ble_eq_true rfl) ⟨Nat.le_refl _, Nat.le_refl _⟩ rfl (fun rv hh hp _ => ?_)
  obtain ⟨rfl, rfl, hL⟩ := hp
  exact x_dp (ls2 := [some (xr 12 0), some (xi x1), none]) ⟨rfl, rfl, trivial⟩ (hr_107 x1 h2 hL hF)
set_option maxHeartbeats 4000000 in
set_option maxRecDepth 100000 in
theorem t_X12_line_4 (E : xE) (d : Nat) (rec : Rk) (r : Int × Hp) (hr_456 : ∀ (h : Hp), Lay h → rec 5 [] h = some r → X E mX12_line (d + 1009) (0, 0) (0, 0) 456 [some (xr 12 0), none, none] [] h (PoV r)) (x1 : Int) (h : Hp) (hL : Lay h) (hF : b_X12_line_4 rec x1 h = some r) : X E mX12_line (d + 1009) (0, 0) (0, 0) 107 [some (xr 12 0), some (xi x1), none] [] h (PoV r) := by
  unfold b_X12_line_4 at hF
  refine x_aload_n (i := 0) (b := 108) dX12_line_107 rfl rfl rfl ?_
  refine x_getI (v := gI h 12 0 32) (b := 111) fk_X12_247 dX12_line_108 (by decide) rfl rfl ?_
  refine x_if_eq (tgt := 115) (b := 114) dX12_line_111 (by decide) rfl (fun hc => ?_) (fun hc => ?_)
  · replace hF := br_T hc hF
    refine x_aload_n (i := 0) (b := 116) dX12_line_115 rfl rfl rfl ?_
    refine x_dup (b := 117) dX12_line_116 rfl rfl ?_
    refine x_getI (v := gI h 12 0 25) (b := 120) fk_X12_276 dX12_line_117 (by decide) rfl rfl ?_
    refine x_iconst (n := 1) (b := 121) dX12_line_120 (by decide) rfl ?_
    refine x_iload_n (i := 1) (b := 122) dX12_line_121 rfl rfl rfl ?_
    refine x_ishl (b := 123) dX12_line_122 rfl ?_
    refine x_ior (b := 124) dX12_line_123 rfl ?_
    refine x_putI (b := 127) fk_X12_276 dX12_line_124 rfl rfl 25 rfl ?_
    obtain ⟨h1, e_h1, hF⟩ := lt_e hF
    refine x_hp (h2 := h1) e_h1 ?_
    replace hL : Lay h1 := by rw [← e_h1]; exact hL
    refine x_aload_n (i := 0) (b := 128) dX12_line_127 rfl rfl rfl ?_
    obtain ⟨v2, h3, hq, hF⟩ := bd_e hF
    refine x_callV (as := []) (rest := []) (b := 131) (c_X12_token (d + 1002) h1 _ hL hq) dX12_line_128 cw_X12_253 ⟨_, _, rfl, Nat.le_of_ble_eq_true rfl⟩ rfl rfl (Nat.le_of_ble_eq_true rfl) ⟨Nat.le_refl _, Nat.le_refl _⟩ rfl (fun rv hh hp _ => ?_)
    obtain ⟨rfl, rfl, hL⟩ := hp
    refine x_iload_n (i := 1) (b := 132) dX12_line_131 rfl rfl rfl ?_
    by_cases hw132_0 : x1 = 0
    · replace hF := br_T hw132_0 hF
      refine x_tableIn (tgt := 192) dX12_line_132 0 hw132_0 ⟨by decide, by decide⟩ rfl (by decide) ?_
      refine x_aload_n (i := 0) (b := 193) dX12_line_192 rfl rfl rfl ?_
      refine x_iconst (n := 0) (b := 194) dX12_line_193 (by decide) rfl ?_
      refine x_aload_n (i := 0) (b := 195) dX12_line_194 rfl rfl rfl ?_
      refine x_iconst (n := 1) (b := 196) dX12_line_195 (by decide) rfl ?_
      refine x_bipush (n := 8) (b := 198) dX12_line_196 (by decide) rfl ?_
      obtain ⟨v4, h5, hq, hF⟩ := bd_e hF
      refine x_callV (as := [xi 1, xi 8]) (rest := [xi 0, xr 12 0]) (b := 201) (c_X12_numeral (d + 1000) 1 8 h3 _ hL hq) dX12_line_198 cw_X12_270 ⟨_, _, rfl, Nat.le_of_ble_eq_true rfl⟩ rfl rfl (Nat.le_of_ble_eq_true rfl) ⟨Nat.le_refl _, Nat.le_refl _⟩ rfl (fun rv hh hp _ => ?_)
      obtain ⟨rfl, rfl, hL⟩ := hp
      obtain ⟨v6, h7, hq, hF⟩ := bd_e hF
      refine x_callV (as := [xi 0, xi v4]) (rest := []) (b := 204) (c_X12_reads (d + 1007) 0 v4 h5 _ hL hq) dX12_line_201 cw_X12_288 ⟨_, _, rfl, Nat.le_of_ble_eq_true rfl⟩ rfl rfl (Nat.le_of_ble_eq_true rfl) ⟨Nat.le_refl _, Nat.le_refl _⟩ rfl (fun rv hh hp _ => ?_)
      obtain ⟨rfl, rfl, hL⟩ := hp
      refine x_aload_n (i := 0) (b := 205) dX12_line_204 rfl rfl rfl ?_
      refine x_iconst (n := 1) (b := 206) dX12_line_205 (by decide) rfl ?_
      refine x_aload_n (i := 0) (b := 207) dX12_line_206 rfl rfl rfl ?_
      refine x_iconst (n := 1) (b := 208) dX12_line_207 (by decide) rfl ?_
      refine x_bipush (n := 8) (b := 210) dX12_line_208 (by decide) rfl ?_
      obtain ⟨v8, h9, hq, hF⟩ := bd_e hF
      refine x_callV (as := [xi 1, xi 8]) (rest := [xi 1, xr 12 0]) (b := 213) (c_X12_numeral (d + 1000) 1 8 h7 _ hL hq) dX12_line_210 cw_X12_270 ⟨_, _, rfl, Nat.le_of_ble_eq_true rfl⟩ rfl rfl (Nat.le_of_ble_eq_true rfl) ⟨Nat.le_refl _, Nat.le_refl _⟩ rfl (fun rv hh hp _ => ?_)
      obtain ⟨rfl, rfl, hL⟩ := hp
      obtain ⟨v10, h11, hq, hF⟩ := bd_e hF
      refine x_callV (as := [xi 1, xi v8]) (rest := []) (b := 216) (c_X12_reads (d + 1007) 1 v8 h9 _ hL hq) dX12_line_213 cw_X12_288 ⟨_, _, rfl, Nat.le_of_ble_eq_true rfl⟩ rfl rfl (Nat.le_of_ble_eq_true rfl) ⟨Nat.le_refl _, Nat.le_refl _⟩ rfl (fun rv hh hp _ => ?_)
      obtain ⟨rfl, rfl, hL⟩ := hp
      refine x_goto (tgt := 456) dX12_line_216 (by decide) ?_
      exact x_dp (ls2 := [some (xr 12 0), none, none]) ⟨rfl, trivial⟩ (hr_456  h11 hL hF)
    replace hF := br_F hw132_0 hF
    by_cases hw132_1 : x1 = 1
    · replace hF := br_T hw132_1 hF
      refine x_tableIn (tgt := 219) dX12_line_132 1 hw132_1 ⟨by decide, by decide⟩ rfl (by decide) ?_
      refine x_aload_n (i := 0) (b := 220) dX12_line_219 rfl rfl rfl ?_
      obtain ⟨v12, h13, hq, hF⟩ := bd_e hF
      refine x_callV (as := []) (rest := []) (b := 223) (c_X12_landLine (d + 998) h3 _ hL hq) dX12_line_220 cw_X12_292 ⟨_, _, rfl, Nat.le_of_ble_eq_true rfl⟩ rfl rfl (Nat.le_of_ble_eq_true rfl) ⟨Nat.le_refl _, Nat.le_refl _⟩ rfl (fun rv hh hp _ => ?_)
      obtain ⟨rfl, rfl, hL⟩ := hp
      refine x_goto (tgt := 456) dX12_line_223 (by decide) ?_
      exact x_dp (ls2 := [some (xr 12 0), none, none]) ⟨rfl, trivial⟩ (hr_456  h13 hL hF)
    replace hF := br_F hw132_1 hF
    by_cases hw132_2 : x1 = 2
    · replace hF := br_T hw132_2 hF
      refine x_tableIn (tgt := 226) dX12_line_132 2 hw132_2 ⟨by decide, by decide⟩ rfl (by decide) ?_
      refine x_aload_n (i := 0) (b := 227) dX12_line_226 rfl rfl rfl ?_
      refine x_iconst (n := 3) (b := 228) dX12_line_227 (by decide) rfl ?_
      refine x_aload_n (i := 0) (b := 229) dX12_line_228 rfl rfl rfl ?_
      obtain ⟨v14, h15, hq, hF⟩ := bd_e hF
      refine x_callV (as := []) (rest := [xi 3, xr 12 0]) (b := 232) (c_X12_water (d + 998) h3 _ hL hq) dX12_line_229 cw_X12_295 ⟨_, _, rfl, Nat.le_of_ble_eq_true rfl⟩ rfl rfl (Nat.le_of_ble_eq_true rfl) ⟨Nat.le_refl _, Nat.le_refl _⟩ rfl (fun rv hh hp _ => ?_)
      obtain ⟨rfl, rfl, hL⟩ := hp
      obtain ⟨v16, h17, hq, hF⟩ := bd_e hF
      refine x_callV (as := [xi 3, xi v14]) (rest := []) (b := 235) (c_X12_reads (d + 1007) 3 v14 h15 _ hL hq) dX12_line_232 cw_X12_288 ⟨_, _, rfl, Nat.le_of_ble_eq_true rfl⟩ rfl rfl (Nat.le_of_ble_eq_true rfl) ⟨Nat.le_refl _, Nat.le_refl _⟩ rfl (fun rv hh hp _ => ?_)
      obtain ⟨rfl, rfl, hL⟩ := hp
      refine x_goto (tgt := 456) dX12_line_235 (by decide) ?_
      exact x_dp (ls2 := [some (xr 12 0), none, none]) ⟨rfl, trivial⟩ (hr_456  h17 hL hF)
    replace hF := br_F hw132_2 hF
    by_cases hw132_3 : x1 = 3
    · replace hF := br_T hw132_3 hF
      refine x_tableIn (tgt := 238) dX12_line_132 3 hw132_3 ⟨by decide, by decide⟩ rfl (by decide) ?_
      refine x_aload_n (i := 0) (b := 239) dX12_line_238 rfl rfl rfl ?_
      refine x_iconst (n := 4) (b := 240) dX12_line_239 (by decide) rfl ?_
      refine x_aload_n (i := 0) (b := 241) dX12_line_240 rfl rfl rfl ?_
      obtain ⟨v18, h19, hq, hF⟩ := bd_e hF
      refine x_callV (as := []) (rest := [xi 4, xr 12 0]) (b := 244) (c_X12_water (d + 998) h3 _ hL hq) dX12_line_241 cw_X12_295 ⟨_, _, rfl, Nat.le_of_ble_eq_true rfl⟩ rfl rfl (Nat.le_of_ble_eq_true rfl) ⟨Nat.le_refl _, Nat.le_refl _⟩ rfl (fun rv hh hp _ => ?_)
      obtain ⟨rfl, rfl, hL⟩ := hp
      obtain ⟨v20, h21, hq, hF⟩ := bd_e hF
      refine x_callV (as := [xi 4, xi v18]) (rest := []) (b := 247) (c_X12_reads (d + 1007) 4 v18 h19 _ hL hq) dX12_line_244 cw_X12_288 ⟨_, _, rfl, Nat.le_of_ble_eq_true rfl⟩ rfl rfl (Nat.le_of_ble_eq_true rfl) ⟨Nat.le_refl _, Nat.le_refl _⟩ rfl (fun rv hh hp _ => ?_)
      obtain ⟨rfl, rfl, hL⟩ := hp
      refine x_goto (tgt := 456) dX12_line_247 (by decide) ?_
      exact x_dp (ls2 := [some (xr 12 0), none, none]) ⟨rfl, trivial⟩ (hr_456  h21 hL hF)
    replace hF := br_F hw132_3 hF
    by_cases hw132_4 : x1 = 4
    · replace hF := br_T hw132_4 hF
      refine x_tableIn (tgt := 250) dX12_line_132 4 hw132_4 ⟨by decide, by decide⟩ rfl (by decide) ?_
      refine x_aload_n (i := 0) (b := 251) dX12_line_250 rfl rfl rfl ?_
      refine x_iconst (n := 3) (b := 252) dX12_line_251 (by decide) rfl ?_
      refine x_aload_n (i := 0) (b := 253) dX12_line_252 rfl rfl rfl ?_
      refine x_iconst (n := 5) (b := 254) dX12_line_253 (by decide) rfl ?_
      obtain ⟨v22, h23, hq, hF⟩ := bd_e hF
      refine x_callV (as := [xi 5]) (rest := [xi 3, xr 12 0]) (b := 257) (c_X12_fresher (d + 1007) 5 h3 _ hL hq) dX12_line_254 cw_X12_266 ⟨_, _, rfl, Nat.le_of_ble_eq_true rfl⟩ rfl rfl (Nat.le_of_ble_eq_true rfl) ⟨Nat.le_refl _, Nat.le_refl _⟩ rfl (fun rv hh hp _ => ?_)
      obtain ⟨rfl, rfl, hL⟩ := hp
      obtain ⟨hs, hF⟩ := ck_e hF
      refine x_iadd (b := 258) dX12_line_257 hs rfl ?_
      obtain ⟨v24, h25, hq, hF⟩ := bd_e hF
      refine x_callV (as := [xi (3 + v22)]) (rest := []) (b := 261) (c_X12_isleLine (d + 997) (3 + v22) h23 _ hL hq) dX12_line_258 cw_X12_298 ⟨_, _, rfl, Nat.le_of_ble_eq_true rfl⟩ rfl rfl (Nat.le_of_ble_eq_true rfl) ⟨Nat.le_refl _, Nat.le_refl _⟩ rfl (fun rv hh hp _ => ?_)
      obtain ⟨rfl, rfl, hL⟩ := hp
      refine x_goto (tgt := 456) dX12_line_261 (by decide) ?_
      exact x_dp (ls2 := [some (xr 12 0), none, none]) ⟨rfl, trivial⟩ (hr_456  h25 hL hF)
    replace hF := br_F hw132_4 hF
    by_cases hw132_5 : x1 = 5
    · replace hF := br_T hw132_5 hF
      refine x_tableIn (tgt := 264) dX12_line_132 5 hw132_5 ⟨by decide, by decide⟩ rfl (by decide) ?_
      refine x_aload_n (i := 0) (b := 265) dX12_line_264 rfl rfl rfl ?_
      obtain ⟨v26, h27, hq, hF⟩ := bd_e hF
      refine x_callV (as := []) (rest := []) (b := 268) (c_X12_windLine (d + 999) h3 _ hL hq) dX12_line_265 cw_X12_301 ⟨_, _, rfl, Nat.le_of_ble_eq_true rfl⟩ rfl rfl (Nat.le_of_ble_eq_true rfl) ⟨Nat.le_refl _, Nat.le_refl _⟩ rfl (fun rv hh hp _ => ?_)
      obtain ⟨rfl, rfl, hL⟩ := hp
      refine x_goto (tgt := 456) dX12_line_268 (by decide) ?_
      exact x_dp (ls2 := [some (xr 12 0), none, none]) ⟨rfl, trivial⟩ (hr_456  h27 hL hF)
    replace hF := br_F hw132_5 hF
    by_cases hw132_6 : x1 = 6
    · replace hF := br_T hw132_6 hF
      refine x_tableIn (tgt := 271) dX12_line_132 6 hw132_6 ⟨by decide, by decide⟩ rfl (by decide) ?_
      refine x_iconst (n := 4) (b := 272) dX12_line_271 (by decide) rfl ?_
      refine x_aload_n (i := 0) (b := 273) dX12_line_272 rfl rfl rfl ?_
      refine x_bipush (n := 7) (b := 275) dX12_line_273 (by decide) rfl ?_
      obtain ⟨v28, h29, hq, hF⟩ := bd_e hF
      refine x_callV (as := [xi 7]) (rest := [xi 4]) (b := 278) (c_X12_fresher (d + 1007) 7 h3 _ hL hq) dX12_line_275 cw_X12_266 ⟨_, _, rfl, Nat.le_of_ble_eq_true rfl⟩ rfl rfl (Nat.le_of_ble_eq_true rfl) ⟨Nat.le_refl _, Nat.le_refl _⟩ rfl (fun rv hh hp _ => ?_)
      obtain ⟨rfl, rfl, hL⟩ := hp
      obtain ⟨hs, hF⟩ := ck_e hF
      refine x_iadd (b := 279) dX12_line_278 hs rfl ?_
      obtain ⟨z30, e_z30, hF⟩ := lt_e hF
      refine x_eq (y := z30) e_z30 ?_
      refine x_istore_n (i := 2) (b := 280) (ls2 := [some (xr 12 0), some (xi x1), some (xi z30)]) dX12_line_279 rfl (Nat.le_of_ble_eq_true rfl) rfl rfl ?_
      refine x_aload_n (i := 0) (b := 281) dX12_line_280 rfl rfl rfl ?_
      refine x_getL (j := 0) (t := (68, 0, true)) (b := 284) fk_X12_35 dX12_line_281 rfl hL rfl rfl rfl ?_
      refine x_iload_n (i := 2) (b := 285) dX12_line_284 rfl rfl rfl ?_
      refine x_aload_n (i := 0) (b := 286) dX12_line_285 rfl rfl rfl ?_
      refine x_iconst (n := 0) (b := 287) dX12_line_286 (by decide) rfl ?_
      refine x_bipush (n := 59) (b := 289) dX12_line_287 (by decide) rfl ?_
      obtain ⟨v31, h32, hq, hF⟩ := bd_e hF
      refine x_callV (as := [xi 0, xi 59]) (rest := [xi z30, xr 68 0]) (b := 292) (c_X12_numeral (d + 1000) 0 59 h29 _ hL hq) dX12_line_289 cw_X12_270 ⟨_, _, rfl, Nat.le_of_ble_eq_true rfl⟩ rfl rfl (Nat.le_of_ble_eq_true rfl) ⟨Nat.le_refl _, Nat.le_refl _⟩ rfl (fun rv hh hp _ => ?_)
      obtain ⟨rfl, rfl, hL⟩ := hp
      obtain ⟨hs, hF⟩ := ck_e hF
      have hs1 := hs
      refine x_iast (b := 293) ak_68 dX12_line_292 hs1 rfl ?_
      obtain ⟨h33, e_h33, hF⟩ := lt_e hF
      refine x_hp (h2 := h33) e_h33 ?_
      replace hL : Lay h33 := by rw [← e_h33]; exact hL
      refine x_aload_n (i := 0) (b := 294) dX12_line_293 rfl rfl rfl ?_
      refine x_getL (j := 0) (t := (69, 0, true)) (b := 297) fk_X12_38 dX12_line_294 rfl hL rfl rfl rfl ?_
      refine x_iload_n (i := 2) (b := 298) dX12_line_297 rfl rfl rfl ?_
      refine x_aload_n (i := 0) (b := 299) dX12_line_298 rfl rfl rfl ?_
      refine x_iconst (n := 0) (b := 300) dX12_line_299 (by decide) rfl ?_
      refine x_iconst (n := 3) (b := 301) dX12_line_300 (by decide) rfl ?_
      obtain ⟨v34, h35, hq, hF⟩ := bd_e hF
      refine x_callV (as := [xi 0, xi 3]) (rest := [xi z30, xr 69 0]) (b := 304) (c_X12_numeral (d + 1000) 0 3 h33 _ hL hq) dX12_line_301 cw_X12_270 ⟨_, _, rfl, Nat.le_of_ble_eq_true rfl⟩ rfl rfl (Nat.le_of_ble_eq_true rfl) ⟨Nat.le_refl _, Nat.le_refl _⟩ rfl (fun rv hh hp _ => ?_)
      obtain ⟨rfl, rfl, hL⟩ := hp
      obtain ⟨hs, hF⟩ := ck_e hF
      have hs1 := hs
      refine x_iast (b := 305) ak_69 dX12_line_304 hs1 rfl ?_
      obtain ⟨h36, e_h36, hF⟩ := lt_e hF
      refine x_hp (h2 := h36) e_h36 ?_
      replace hL : Lay h36 := by rw [← e_h36]; exact hL
      refine x_aload_n (i := 0) (b := 306) dX12_line_305 rfl rfl rfl ?_
      refine x_getL (j := 0) (t := (70, 0, true)) (b := 309) fk_X12_41 dX12_line_306 rfl hL rfl rfl rfl ?_
      refine x_iload_n (i := 2) (b := 310) dX12_line_309 rfl rfl rfl ?_
      refine x_aload_n (i := 0) (b := 311) dX12_line_310 rfl rfl rfl ?_
      refine x_iconst (n := 1) (b := 312) dX12_line_311 (by decide) rfl ?_
      refine x_bipush (n := 99) (b := 314) dX12_line_312 (by decide) rfl ?_
      obtain ⟨v37, h38, hq, hF⟩ := bd_e hF
      refine x_callV (as := [xi 1, xi 99]) (rest := [xi z30, xr 70 0]) (b := 317) (c_X12_numeral (d + 1000) 1 99 h36 _ hL hq) dX12_line_314 cw_X12_270 ⟨_, _, rfl, Nat.le_of_ble_eq_true rfl⟩ rfl rfl (Nat.le_of_ble_eq_true rfl) ⟨Nat.le_refl _, Nat.le_refl _⟩ rfl (fun rv hh hp _ => ?_)
      obtain ⟨rfl, rfl, hL⟩ := hp
      obtain ⟨hs, hF⟩ := ck_e hF
      have hs1 := hs
      refine x_iast (b := 318) ak_70 dX12_line_317 hs1 rfl ?_
      obtain ⟨h39, e_h39, hF⟩ := lt_e hF
      refine x_hp (h2 := h39) e_h39 ?_
      replace hL : Lay h39 := by rw [← e_h39]; exact hL
      refine x_aload_n (i := 0) (b := 319) dX12_line_318 rfl rfl rfl ?_
      refine x_bipush (n := 7) (b := 321) dX12_line_319 (by decide) rfl ?_
      refine x_aload_n (i := 0) (b := 322) dX12_line_321 rfl rfl rfl ?_
      refine x_bipush (n := 7) (b := 324) dX12_line_322 (by decide) rfl ?_
      obtain ⟨v40, h41, hq, hF⟩ := bd_e hF
      refine x_callV (as := [xi 7]) (rest := [xi 7, xr 12 0]) (b := 327) (c_X12_fresher (d + 1007) 7 h39 _ hL hq) dX12_line_324 cw_X12_266 ⟨_, _, rfl, Nat.le_of_ble_eq_true rfl⟩ rfl rfl (Nat.le_of_ble_eq_true rfl) ⟨Nat.le_refl _, Nat.le_refl _⟩ rfl (fun rv hh hp _ => ?_)
      obtain ⟨rfl, rfl, hL⟩ := hp
      refine x_iconst (n := 1) (b := 328) dX12_line_327 (by decide) rfl ?_
      obtain ⟨hs, hF⟩ := ck_e hF
      refine x_iadd (b := 329) dX12_line_328 hs rfl ?_
      obtain ⟨v42, h43, hq, hF⟩ := bd_e hF
      refine x_callV (as := [xi 7, xi (v40 + 1)]) (rest := []) (b := 332) (c_X12_reads (d + 1007) 7 (v40 + 1) h41 _ hL hq) dX12_line_329 cw_X12_288 ⟨_, _, rfl, Nat.le_of_ble_eq_true rfl⟩ rfl rfl (Nat.le_of_ble_eq_true rfl) ⟨Nat.le_refl _, Nat.le_refl _⟩ rfl (fun rv hh hp _ => ?_)
      obtain ⟨rfl, rfl, hL⟩ := hp
      refine x_goto (tgt := 456) dX12_line_332 (by decide) ?_
      exact x_dp (ls2 := [some (xr 12 0), none, none]) ⟨rfl, trivial⟩ (hr_456  h43 hL hF)
    replace hF := br_F hw132_6 hF
    by_cases hw132_7 : x1 = 7
    · replace hF := br_T hw132_7 hF
      refine x_tableIn (tgt := 335) dX12_line_132 7 hw132_7 ⟨by decide, by decide⟩ rfl (by decide) ?_
      refine x_aload_n (i := 0) (b := 336) dX12_line_335 rfl rfl rfl ?_
      refine x_bipush (n := 8) (b := 338) dX12_line_336 (by decide) rfl ?_
      refine x_aload_n (i := 0) (b := 339) dX12_line_338 rfl rfl rfl ?_
      refine x_iconst (n := 0) (b := 340) dX12_line_339 (by decide) rfl ?_
      refine x_bipush (n := 99) (b := 342) dX12_line_340 (by decide) rfl ?_
      obtain ⟨v44, h45, hq, hF⟩ := bd_e hF
      refine x_callV (as := [xi 0, xi 99]) (rest := [xi 8, xr 12 0]) (b := 345) (c_X12_numeral (d + 1000) 0 99 h3 _ hL hq) dX12_line_342 cw_X12_270 ⟨_, _, rfl, Nat.le_of_ble_eq_true rfl⟩ rfl rfl (Nat.le_of_ble_eq_true rfl) ⟨Nat.le_refl _, Nat.le_refl _⟩ rfl (fun rv hh hp _ => ?_)
      obtain ⟨rfl, rfl, hL⟩ := hp
      obtain ⟨v46, h47, hq, hF⟩ := bd_e hF
      refine x_callV (as := [xi 8, xi v44]) (rest := []) (b := 348) (c_X12_reads (d + 1007) 8 v44 h45 _ hL hq) dX12_line_345 cw_X12_288 ⟨_, _, rfl, Nat.le_of_ble_eq_true rfl⟩ rfl rfl (Nat.le_of_ble_eq_true rfl) ⟨Nat.le_refl _, Nat.le_refl _⟩ rfl (fun rv hh hp _ => ?_)
      obtain ⟨rfl, rfl, hL⟩ := hp
      refine x_aload_n (i := 0) (b := 349) dX12_line_348 rfl rfl rfl ?_
      refine x_bipush (n := 9) (b := 351) dX12_line_349 (by decide) rfl ?_
      refine x_aload_n (i := 0) (b := 352) dX12_line_351 rfl rfl rfl ?_
      refine x_iconst (n := 1) (b := 353) dX12_line_352 (by decide) rfl ?_
      refine x_bipush (n := 99) (b := 355) dX12_line_353 (by decide) rfl ?_
      obtain ⟨v48, h49, hq, hF⟩ := bd_e hF
      refine x_callV (as := [xi 1, xi 99]) (rest := [xi 9, xr 12 0]) (b := 358) (c_X12_numeral (d + 1000) 1 99 h47 _ hL hq) dX12_line_355 cw_X12_270 ⟨_, _, rfl, Nat.le_of_ble_eq_true rfl⟩ rfl rfl (Nat.le_of_ble_eq_true rfl) ⟨Nat.le_refl _, Nat.le_refl _⟩ rfl (fun rv hh hp _ => ?_)
      obtain ⟨rfl, rfl, hL⟩ := hp
      obtain ⟨v50, h51, hq, hF⟩ := bd_e hF
      refine x_callV (as := [xi 9, xi v48]) (rest := []) (b := 361) (c_X12_reads (d + 1007) 9 v48 h49 _ hL hq) dX12_line_358 cw_X12_288 ⟨_, _, rfl, Nat.le_of_ble_eq_true rfl⟩ rfl rfl (Nat.le_of_ble_eq_true rfl) ⟨Nat.le_refl _, Nat.le_refl _⟩ rfl (fun rv hh hp _ => ?_)
      obtain ⟨rfl, rfl, hL⟩ := hp
      refine x_goto (tgt := 456) dX12_line_361 (by decide) ?_
      exact x_dp (ls2 := [some (xr 12 0), none, none]) ⟨rfl, trivial⟩ (hr_456  h51 hL hF)
    replace hF := br_F hw132_7 hF
    by_cases hw132_8 : x1 = 8
    · replace hF := br_T hw132_8 hF
      refine x_tableIn (tgt := 364) dX12_line_132 8 hw132_8 ⟨by decide, by decide⟩ rfl (by decide) ?_
      refine x_aload_n (i := 0) (b := 365) dX12_line_364 rfl rfl rfl ?_
      refine x_bipush (n := 10) (b := 367) dX12_line_365 (by decide) rfl ?_
      refine x_aload_n (i := 0) (b := 368) dX12_line_367 rfl rfl rfl ?_
      refine x_iconst (n := 0) (b := 369) dX12_line_368 (by decide) rfl ?_
      refine x_sipush (n := 9999) (b := 372) dX12_line_369 (by decide) rfl ?_
      obtain ⟨v52, h53, hq, hF⟩ := bd_e hF
      refine x_callV (as := [xi 0, xi 9999]) (rest := [xi 10, xr 12 0]) (b := 375) (c_X12_numeral (d + 1000) 0 9999 h3 _ hL hq) dX12_line_372 cw_X12_270 ⟨_, _, rfl, Nat.le_of_ble_eq_true rfl⟩ rfl rfl (Nat.le_of_ble_eq_true rfl) ⟨Nat.le_refl _, Nat.le_refl _⟩ rfl (fun rv hh hp _ => ?_)
      obtain ⟨rfl, rfl, hL⟩ := hp
      obtain ⟨v54, h55, hq, hF⟩ := bd_e hF
      refine x_callV (as := [xi 10, xi v52]) (rest := []) (b := 378) (c_X12_reads (d + 1007) 10 v52 h53 _ hL hq) dX12_line_375 cw_X12_288 ⟨_, _, rfl, Nat.le_of_ble_eq_true rfl⟩ rfl rfl (Nat.le_of_ble_eq_true rfl) ⟨Nat.le_refl _, Nat.le_refl _⟩ rfl (fun rv hh hp _ => ?_)
      obtain ⟨rfl, rfl, hL⟩ := hp
      refine x_goto (tgt := 456) dX12_line_378 (by decide) ?_
      exact x_dp (ls2 := [some (xr 12 0), none, none]) ⟨rfl, trivial⟩ (hr_456  h55 hL hF)
    replace hF := br_F hw132_8 hF
    by_cases hw132_9 : x1 = 9
    · replace hF := br_T hw132_9 hF
      refine x_tableIn (tgt := 381) dX12_line_132 9 hw132_9 ⟨by decide, by decide⟩ rfl (by decide) ?_
      refine x_aload_n (i := 0) (b := 382) dX12_line_381 rfl rfl rfl ?_
      refine x_bipush (n := 11) (b := 384) dX12_line_382 (by decide) rfl ?_
      refine x_aload_n (i := 0) (b := 385) dX12_line_384 rfl rfl rfl ?_
      refine x_iconst (n := 0) (b := 386) dX12_line_385 (by decide) rfl ?_
      refine x_ldc (z := 99999) (b := 388) dX12_line_386 kw_1791 (by decide) rfl ?_
      obtain ⟨v56, h57, hq, hF⟩ := bd_e hF
      refine x_callV (as := [xi 0, xi 99999]) (rest := [xi 11, xr 12 0]) (b := 391) (c_X12_numeral (d + 1000) 0 99999 h3 _ hL hq) dX12_line_388 cw_X12_270 ⟨_, _, rfl, Nat.le_of_ble_eq_true rfl⟩ rfl rfl (Nat.le_of_ble_eq_true rfl) ⟨Nat.le_refl _, Nat.le_refl _⟩ rfl (fun rv hh hp _ => ?_)
      obtain ⟨rfl, rfl, hL⟩ := hp
      obtain ⟨v58, h59, hq, hF⟩ := bd_e hF
      refine x_callV (as := [xi 11, xi v56]) (rest := []) (b := 394) (c_X12_reads (d + 1007) 11 v56 h57 _ hL hq) dX12_line_391 cw_X12_288 ⟨_, _, rfl, Nat.le_of_ble_eq_true rfl⟩ rfl rfl (Nat.le_of_ble_eq_true rfl) ⟨Nat.le_refl _, Nat.le_refl _⟩ rfl (fun rv hh hp _ => ?_)
      obtain ⟨rfl, rfl, hL⟩ := hp
      refine x_goto (tgt := 456) dX12_line_394 (by decide) ?_
      exact x_dp (ls2 := [some (xr 12 0), none, none]) ⟨rfl, trivial⟩ (hr_456  h59 hL hF)
    replace hF := br_F hw132_9 hF
    by_cases hw132_10 : x1 = 10
    · replace hF := br_T hw132_10 hF
      refine x_tableIn (tgt := 397) dX12_line_132 10 hw132_10 ⟨by decide, by decide⟩ rfl (by decide) ?_
      refine x_aload_n (i := 0) (b := 398) dX12_line_397 rfl rfl rfl ?_
      refine x_bipush (n := 9) (b := 400) dX12_line_398 (by decide) rfl ?_
      refine x_aload_n (i := 0) (b := 401) dX12_line_400 rfl rfl rfl ?_
      refine x_bipush (n := 12) (b := 403) dX12_line_401 (by decide) rfl ?_
      obtain ⟨v60, h61, hq, hF⟩ := bd_e hF
      refine x_callV (as := [xi 12]) (rest := [xi 9, xr 12 0]) (b := 406) (c_X12_fresher (d + 1007) 12 h3 _ hL hq) dX12_line_403 cw_X12_266 ⟨_, _, rfl, Nat.le_of_ble_eq_true rfl⟩ rfl rfl (Nat.le_of_ble_eq_true rfl) ⟨Nat.le_refl _, Nat.le_refl _⟩ rfl (fun rv hh hp _ => ?_)
      obtain ⟨rfl, rfl, hL⟩ := hp
      obtain ⟨hs, hF⟩ := ck_e hF
      refine x_iadd (b := 407) dX12_line_406 hs rfl ?_
      refine x_iconst (n := 0) (b := 408) dX12_line_407 (by decide) rfl ?_
      obtain ⟨v62, h63, hq, hF⟩ := bd_e hF
      refine x_callV (as := [xi (9 + v60), xi 0]) (rest := []) (b := 411) (c_X12_mouthLine d (9 + v60) 0 h61 _ hL hq) dX12_line_408 cw_X12_304 ⟨_, _, rfl, Nat.le_of_ble_eq_true rfl⟩ rfl rfl (Nat.le_of_ble_eq_true rfl) ⟨Nat.le_refl _, Nat.le_refl _⟩ rfl (fun rv hh hp _ => ?_)
      obtain ⟨rfl, rfl, hL⟩ := hp
      refine x_aload_n (i := 0) (b := 412) dX12_line_411 rfl rfl rfl ?_
      refine x_bipush (n := 12) (b := 414) dX12_line_412 (by decide) rfl ?_
      refine x_aload_n (i := 0) (b := 415) dX12_line_414 rfl rfl rfl ?_
      refine x_bipush (n := 12) (b := 417) dX12_line_415 (by decide) rfl ?_
      obtain ⟨v64, h65, hq, hF⟩ := bd_e hF
      refine x_callV (as := [xi 12]) (rest := [xi 12, xr 12 0]) (b := 420) (c_X12_fresher (d + 1007) 12 h63 _ hL hq) dX12_line_417 cw_X12_266 ⟨_, _, rfl, Nat.le_of_ble_eq_true rfl⟩ rfl rfl (Nat.le_of_ble_eq_true rfl) ⟨Nat.le_refl _, Nat.le_refl _⟩ rfl (fun rv hh hp _ => ?_)
      obtain ⟨rfl, rfl, hL⟩ := hp
      refine x_iconst (n := 1) (b := 421) dX12_line_420 (by decide) rfl ?_
      obtain ⟨hs, hF⟩ := ck_e hF
      refine x_iadd (b := 422) dX12_line_421 hs rfl ?_
      obtain ⟨v66, h67, hq, hF⟩ := bd_e hF
      refine x_callV (as := [xi 12, xi (v64 + 1)]) (rest := []) (b := 425) (c_X12_reads (d + 1007) 12 (v64 + 1) h65 _ hL hq) dX12_line_422 cw_X12_288 ⟨_, _, rfl, Nat.le_of_ble_eq_true rfl⟩ rfl rfl (Nat.le_of_ble_eq_true rfl) ⟨Nat.le_refl _, Nat.le_refl _⟩ rfl (fun rv hh hp _ => ?_)
      obtain ⟨rfl, rfl, hL⟩ := hp
      refine x_goto (tgt := 456) dX12_line_425 (by decide) ?_
      exact x_dp (ls2 := [some (xr 12 0), none, none]) ⟨rfl, trivial⟩ (hr_456  h67 hL hF)
    replace hF := br_F hw132_10 hF
    refine x_tableOut (tgt := 428) dX12_line_132 (by omega) (by decide) ?_
    refine x_aload_n (i := 0) (b := 429) dX12_line_428 rfl rfl rfl ?_
    refine x_bipush (n := 14) (b := 431) dX12_line_429 (by decide) rfl ?_
    refine x_aload_n (i := 0) (b := 432) dX12_line_431 rfl rfl rfl ?_
    refine x_bipush (n := 13) (b := 434) dX12_line_432 (by decide) rfl ?_
    obtain ⟨v68, h69, hq, hF⟩ := bd_e hF
    refine x_callV (as := [xi 13]) (rest := [xi 14, xr 12 0]) (b := 437) (c_X12_fresher (d + 1007) 13 h3 _ hL hq) dX12_line_434 cw_X12_266 ⟨_, _, rfl, Nat.le_of_ble_eq_true rfl⟩ rfl rfl (Nat.le_of_ble_eq_true rfl) ⟨Nat.le_refl _, Nat.le_refl _⟩ rfl (fun rv hh hp _ => ?_)
    obtain ⟨rfl, rfl, hL⟩ := hp
    obtain ⟨hs, hF⟩ := ck_e hF
    refine x_iadd (b := 438) dX12_line_437 hs rfl ?_
    refine x_iconst (n := 1) (b := 439) dX12_line_438 (by decide) rfl ?_
    obtain ⟨v70, h71, hq, hF⟩ := bd_e hF
    refine x_callV (as := [xi (14 + v68), xi 1]) (rest := []) (b := 442) (c_X12_mouthLine d (14 + v68) 1 h69 _ hL hq) dX12_line_439 cw_X12_304 ⟨_, _, rfl, Nat.le_of_ble_eq_true rfl⟩ rfl rfl (Nat.le_of_ble_eq_true rfl) ⟨Nat.le_refl _, Nat.le_refl _⟩ rfl (fun rv hh hp _ => ?_)
    obtain ⟨rfl, rfl, hL⟩ := hp
    refine x_aload_n (i := 0) (b := 443) dX12_line_442 rfl rfl rfl ?_
    refine x_bipush (n := 13) (b := 445) dX12_line_443 (by decide) rfl ?_
    refine x_aload_n (i := 0) (b := 446) dX12_line_445 rfl rfl rfl ?_
    refine x_bipush (n := 13) (b := 448) dX12_line_446 (by decide) rfl ?_
    obtain ⟨v72, h73, hq, hF⟩ := bd_e hF
    refine x_callV (as := [xi 13]) (rest := [xi 13, xr 12 0]) (b := 451) (c_X12_fresher (d + 1007) 13 h71 _ hL hq) dX12_line_448 cw_X12_266 ⟨_, _, rfl, Nat.le_of_ble_eq_true rfl⟩ rfl rfl (Nat.le_of_ble_eq_true rfl) ⟨Nat.le_refl _, Nat.le_refl _⟩ rfl (fun rv hh hp _ => ?_)
    obtain ⟨rfl, rfl, hL⟩ := hp
    refine x_iconst (n := 1) (b := 452) dX12_line_451 (by decide) rfl ?_
    obtain ⟨hs, hF⟩ := ck_e hF
    refine x_iadd (b := 453) dX12_line_452 hs rfl ?_
    obtain ⟨v74, h75, hq, hF⟩ := bd_e hF
    refine x_callV (as := [xi 13, xi (v72 + 1)]) (rest := []) (b := 456) (c_X12_reads (d + 1007) 13 (v72 + 1) h73 _ hL hq) dX12_line_453 cw_X12_288 ⟨_, _, rfl, Nat.le_of_ble_eq_true rfl⟩ rfl rfl (Nat.le_of_ble_eq_true rfl) ⟨Nat.le_refl _, Nat.le_refl _⟩ rfl (fun rv hh hp _ => ?_)
    obtain ⟨rfl, rfl, hL⟩ := hp
    exact x_dp (ls2 := [some (xr 12 0), none, none]) ⟨rfl, trivial⟩ (hr_456  h75 hL hF)
  · replace hF := br_F hc hF
    refine x_return dX12_line_114 rfl ⟨Nat.le_refl _, Nat.le_refl _⟩ ?_
    cases hF
    exact ⟨rfl, rfl, hL⟩
set_option maxHeartbeats 4000000 in
set_option maxRecDepth 100000 in
theorem t_X12_line_5 (E : xE) (d : Nat) (rec : Rk) (r : Int × Hp) (hr_485 : ∀ (h : Hp), Lay h → rec 6 [] h = some r → X E mX12_line (d + 1009) (0, 0) (0, 0) 485 [some (xr 12 0), none, none] [] h (PoV r)) (h : Hp) (hL : Lay h) (hF : b_X12_line_5 rec  h = some r) : X E mX12_line (d + 1009) (0, 0) (0, 0) 456 [some (xr 12 0), none, none] [] h (PoV r) := by
  unfold b_X12_line_5 at hF
  refine x_aload_n (i := 0) (b := 457) dX12_line_456 rfl rfl rfl ?_
  refine x_getI (v := gI h 12 0 32) (b := 460) fk_X12_247 dX12_line_457 (by decide) rfl rfl ?_
  refine x_if_eq (tgt := 464) (b := 463) dX12_line_460 (by decide) rfl (fun hc => ?_) (fun hc => ?_)
  · replace hF := br_T hc hF
    refine x_aload_n (i := 0) (b := 465) dX12_line_464 rfl rfl rfl ?_
    refine x_bipush (n := 59) (b := 467) dX12_line_465 (by decide) rfl ?_
    obtain ⟨v1, h2, hq, hF⟩ := bd_e hF
    refine x_callV (as := [xi 59]) (rest := []) (b := 470) (c_X12_isSign (d + 1007) 59 h _ hL hq) dX12_line_467 cw_X12_308 ⟨_, _, rfl, Nat.le_of_ble_eq_true rfl⟩ rfl rfl (Nat.le_of_ble_eq_true rfl) ⟨Nat.le_refl _, Nat.le_refl _⟩ rfl (fun rv hh hp _ => ?_)
    obtain ⟨rfl, rfl, hL⟩ := hp
    refine x_if_ne (tgt := 481) (b := 473) dX12_line_470 (by decide) rfl (fun hc => ?_) (fun hc => ?_)
    · replace hF := br_F hc hF
      refine x_aload_n (i := 0) (b := 482) dX12_line_481 rfl rfl rfl ?_
      obtain ⟨v5, h6, hq, hF⟩ := bd_e hF
      refine x_callV (as := []) (rest := []) (b := 485) (c_X12_token (d + 1002) h2 _ hL hq) dX12_line_482 cw_X12_253 ⟨_, _, rfl, Nat.le_of_ble_eq_true rfl⟩ rfl rfl (Nat.le_of_ble_eq_true rfl) ⟨Nat.le_refl _, Nat.le_refl _⟩ rfl (fun rv hh hp _ => ?_)
      obtain ⟨rfl, rfl, hL⟩ := hp
      exact x_dp (ls2 := [some (xr 12 0), none, none]) ⟨rfl, trivial⟩ (hr_485  h6 hL hF)
    · replace hF := br_T hc hF
      refine x_aload_n (i := 0) (b := 474) dX12_line_473 rfl rfl rfl ?_
      refine x_iconst (n := 1) (b := 475) dX12_line_474 (by decide) rfl ?_
      obtain ⟨v3, h4, hq, hF⟩ := bd_e hF
      refine x_callV (as := [xi 1]) (rest := []) (b := 478) (c_X12_wrong (d + 1007) 1 h2 _ hL hq) dX12_line_475 cw_X12_256 ⟨_, _, rfl, Nat.le_of_ble_eq_true rfl⟩ rfl rfl (Nat.le_of_ble_eq_true rfl) ⟨Nat.le_refl _, Nat.le_refl _⟩ rfl (fun rv hh hp _ => ?_)
      obtain ⟨rfl, rfl, hL⟩ := hp
      refine x_goto (tgt := 485) dX12_line_478 (by decide) ?_
      exact x_dp (ls2 := [some (xr 12 0), none, none]) ⟨rfl, trivial⟩ (hr_485  h4 hL hF)
  · replace hF := br_F hc hF
    refine x_return dX12_line_463 rfl ⟨Nat.le_refl _, Nat.le_refl _⟩ ?_
    cases hF
    exact ⟨rfl, rfl, hL⟩
set_option maxHeartbeats 4000000 in
set_option maxRecDepth 100000 in
theorem t_X12_line_6 (E : xE) (d : Nat) (rec : Rk) (r : Int × Hp) (h : Hp) (hL : Lay h) (hF : b_X12_line_6 rec  h = some r) : X E mX12_line (d + 1009) (0, 0) (0, 0) 485 [some (xr 12 0), none, none] [] h (PoV r) := by
  unfold b_X12_line_6 at hF
  refine x_aload_n (i := 0) (b := 486) dX12_line_485 rfl rfl rfl ?_
  refine x_dup (b := 487) dX12_line_486 rfl rfl ?_
  refine x_getI (v := gI h 12 0 26) (b := 490) fk_X12_311 dX12_line_487 (by decide) rfl rfl ?_
  refine x_iconst (n := 1) (b := 491) dX12_line_490 (by decide) rfl ?_
  obtain ⟨hs, hF⟩ := ck_e hF
  refine x_iadd (b := 492) dX12_line_491 hs rfl ?_
  refine x_putI (b := 495) fk_X12_311 dX12_line_492 rfl rfl 26 rfl ?_
  obtain ⟨h1, e_h1, hF⟩ := lt_e hF
  refine x_hp (h2 := h1) e_h1 ?_
  replace hL : Lay h1 := by rw [← e_h1]; exact hL
  refine x_return dX12_line_495 rfl ⟨Nat.le_refl _, Nat.le_refl _⟩ ?_
  cases hF
  exact ⟨rfl, rfl, hL⟩
set_option maxHeartbeats 4000000 in
set_option maxRecDepth 100000 in
theorem u_X12_line (E : xE) (d : Nat) (r : Int × Hp) : ∀ n : Nat, (∀ (h : Hp), Lay h → g_X12_line n 0 [] h = some r → X E mX12_line (d + 1009) (0, 0) (0, 0) 0 [some (xr 12 0), none, none] [] h (PoV r)) ∧ (∀ (h : Hp), Lay h → g_X12_line n 1 [] h = some r → X E mX12_line (d + 1009) (0, 0) (0, 0) 16 [some (xr 12 0), none, none] [] h (PoV r)) ∧ (∀ (x1 : Int) (h : Hp), Lay h → g_X12_line n 2 [x1] h = some r → X E mX12_line (d + 1009) (0, 0) (0, 0) 66 [some (xr 12 0), some (xi x1), none] [] h (PoV r)) ∧ (∀ (x1 : Int) (h : Hp), Lay h → g_X12_line n 3 [x1] h = some r → X E mX12_line (d + 1009) (0, 0) (0, 0) 102 [some (xr 12 0), some (xi x1), none] [] h (PoV r)) ∧ (∀ (x1 : Int) (h : Hp), Lay h → g_X12_line n 4 [x1] h = some r → X E mX12_line (d + 1009) (0, 0) (0, 0) 107 [some (xr 12 0), some (xi x1), none] [] h (PoV r)) ∧ (∀ (h : Hp), Lay h → g_X12_line n 5 [] h = some r → X E mX12_line (d + 1009) (0, 0) (0, 0) 456 [some (xr 12 0), none, none] [] h (PoV r)) ∧ (∀ (h : Hp), Lay h → g_X12_line n 6 [] h = some r → X E mX12_line (d + 1009) (0, 0) (0, 0) 485 [some (xr 12 0), none, none] [] h (PoV r)) := by
  intro n
  induction n with
  | zero => exact ⟨fun _ _ hF => no_e (r := r) hF, fun _ _ hF => no_e (r := r) hF, fun _ _ _ hF => no_e (r := r) hF, fun _ _ _ hF => no_e (r := r) hF, fun _ _ _ hF => no_e (r := r) hF, fun _ _ hF => no_e (r := r) hF, fun _ _ hF => no_e (r := r) hF⟩
  | succ n ih => exact ⟨fun h hL hF => t_X12_line_0 E d (g_X12_line n) r ih.2.1 ih.2.2.1 ih.2.2.2.2.1  h hL hF, fun h hL hF => t_X12_line_1 E d (g_X12_line n) r   h hL hF, fun x1 h hL hF => t_X12_line_2 E d (g_X12_line n) r ih.2.2.2.1 ih.2.2.2.2.1 x1 h hL hF, fun x1 h hL hF => t_X12_line_3 E d (g_X12_line n) r ih.2.2.2.2.1 x1 h hL hF, fun x1 h hL hF => t_X12_line_4 E d (g_X12_line n) r ih.2.2.2.2.2.1 x1 h hL hF, fun h hL hF => t_X12_line_5 E d (g_X12_line n) r ih.2.2.2.2.2.2  h hL hF, fun h hL hF => t_X12_line_6 E d (g_X12_line n) r   h hL hF⟩
theorem c_X12_line (d : Nat) (h : Hp) (r : Int × Hp) (hL : Lay h) (hF : f_X12_line  h = some r) : Sp mX12_line (d + 1009) (0, 0) [xr 12 0] h (PoV r) :=
  sp_of (by decide) rfl (Nat.le_of_ble_eq_true rfl) (ls := [some (xr 12 0), none, none]) rfl (fun E _ => (u_X12_line E d r FU).1  h hL hF)
theorem dX12_text_0 : decode cX12_text 0 = .ok (.aload_n 0, 1) := by decide +kernel
theorem dX12_text_1 : decode cX12_text 1 = .ok (.iconst 0, 1) := by decide +kernel
theorem dX12_text_2 : decode cX12_text 2 = .ok (.putfield 194, 3) := by decide +kernel
theorem dX12_text_5 : decode cX12_text 5 = .ok (.iload_n 1, 1) := by decide +kernel
theorem dX12_text_6 : decode cX12_text 6 = .ok (.ifCond .lt 11, 3) := by decide +kernel
theorem dX12_text_9 : decode cX12_text 9 = .ok (.iload_n 1, 1) := by decide +kernel
theorem dX12_text_10 : decode cX12_text 10 = .ok (.aload_n 0, 1) := by decide +kernel
theorem dX12_text_11 : decode cX12_text 11 = .ok (.getfield 197, 3) := by decide +kernel
theorem dX12_text_14 : decode cX12_text 14 = .ok (.if_icmp .le 6, 3) := by decide +kernel
theorem dX12_text_17 : decode cX12_text 17 = .ok (.bipush (-2), 2) := by decide +kernel
theorem dX12_text_19 : decode cX12_text 19 = .ok (.ireturn, 1) := by decide +kernel
theorem dX12_text_20 : decode cX12_text 20 = .ok (.aload_n 0, 1) := by decide +kernel
theorem dX12_text_21 : decode cX12_text 21 = .ok (.iload_n 1, 1) := by decide +kernel
theorem dX12_text_22 : decode cX12_text 22 = .ok (.putfield 203, 3) := by decide +kernel
theorem dX12_text_25 : decode cX12_text 25 = .ok (.aload_n 0, 1) := by decide +kernel
theorem dX12_text_26 : decode cX12_text 26 = .ok (.iconst 0, 1) := by decide +kernel
theorem dX12_text_27 : decode cX12_text 27 = .ok (.putfield 197, 3) := by decide +kernel
theorem dX12_text_30 : decode cX12_text 30 = .ok (.aload_n 0, 1) := by decide +kernel
theorem dX12_text_31 : decode cX12_text 31 = .ok (.iconst 0, 1) := by decide +kernel
theorem dX12_text_32 : decode cX12_text 32 = .ok (.putfield 200, 3) := by decide +kernel
theorem dX12_text_35 : decode cX12_text 35 = .ok (.aload_n 0, 1) := by decide +kernel
theorem dX12_text_36 : decode cX12_text 36 = .ok (.iconst 0, 1) := by decide +kernel
theorem dX12_text_37 : decode cX12_text 37 = .ok (.putfield 247, 3) := by decide +kernel
theorem dX12_text_40 : decode cX12_text 40 = .ok (.aload_n 0, 1) := by decide +kernel
theorem dX12_text_41 : decode cX12_text 41 = .ok (.iconst (-1), 1) := by decide +kernel
theorem dX12_text_42 : decode cX12_text 42 = .ok (.putfield 250, 3) := by decide +kernel
theorem dX12_text_45 : decode cX12_text 45 = .ok (.iconst 0, 1) := by decide +kernel
theorem dX12_text_46 : decode cX12_text 46 = .ok (.istore_n 2, 1) := by decide +kernel
theorem dX12_text_47 : decode cX12_text 47 = .ok (.iload_n 2, 1) := by decide +kernel
theorem dX12_text_48 : decode cX12_text 48 = .ok (.bipush 15, 2) := by decide +kernel
theorem dX12_text_50 : decode cX12_text 50 = .ok (.if_icmp .ge 49, 3) := by decide +kernel
theorem dX12_text_53 : decode cX12_text 53 = .ok (.aload_n 0, 1) := by decide +kernel
theorem dX12_text_54 : decode cX12_text 54 = .ok (.iload_n 2, 1) := by decide +kernel
theorem dX12_text_55 : decode cX12_text 55 = .ok (.iload_n 2, 1) := by decide +kernel
theorem dX12_text_56 : decode cX12_text 56 = .ok (.ifCond .eq 8, 3) := by decide +kernel
theorem dX12_text_59 : decode cX12_text 59 = .ok (.iload_n 2, 1) := by decide +kernel
theorem dX12_text_60 : decode cX12_text 60 = .ok (.iconst 1, 1) := by decide +kernel
theorem dX12_text_61 : decode cX12_text 61 = .ok (.if_icmp .ne 7, 3) := by decide +kernel
theorem dX12_text_64 : decode cX12_text 64 = .ok (.iconst 4, 1) := by decide +kernel
theorem dX12_text_65 : decode cX12_text 65 = .ok (.goto 25, 3) := by decide +kernel
theorem dX12_text_68 : decode cX12_text 68 = .ok (.iload_n 2, 1) := by decide +kernel
theorem dX12_text_69 : decode cX12_text 69 = .ok (.bipush 9, 2) := by decide +kernel
theorem dX12_text_71 : decode cX12_text 71 = .ok (.if_icmp .ne 7, 3) := by decide +kernel
theorem dX12_text_74 : decode cX12_text 74 = .ok (.iconst 1, 1) := by decide +kernel
theorem dX12_text_75 : decode cX12_text 75 = .ok (.goto 15, 3) := by decide +kernel
theorem dX12_text_78 : decode cX12_text 78 = .ok (.iload_n 2, 1) := by decide +kernel
theorem dX12_text_79 : decode cX12_text 79 = .ok (.bipush 10, 2) := by decide +kernel
theorem dX12_text_81 : decode cX12_text 81 = .ok (.if_icmp .ne 8, 3) := by decide +kernel
theorem dX12_text_84 : decode cX12_text 84 = .ok (.bipush 100, 2) := by decide +kernel
theorem dX12_text_86 : decode cX12_text 86 = .ok (.goto 4, 3) := by decide +kernel
theorem dX12_text_89 : decode cX12_text 89 = .ok (.iconst 0, 1) := by decide +kernel
theorem dX12_text_90 : decode cX12_text 90 = .ok (.invokevirtual 288, 3) := by decide +kernel
theorem dX12_text_93 : decode cX12_text 93 = .ok (.iinc 2 1, 3) := by decide +kernel
theorem dX12_text_96 : decode cX12_text 96 = .ok (.goto (-49), 3) := by decide +kernel
theorem dX12_text_99 : decode cX12_text 99 = .ok (.iconst 0, 1) := by decide +kernel
theorem dX12_text_100 : decode cX12_text 100 = .ok (.istore_n 2, 1) := by decide +kernel
theorem dX12_text_101 : decode cX12_text 101 = .ok (.iload_n 2, 1) := by decide +kernel
theorem dX12_text_102 : decode cX12_text 102 = .ok (.bipush 64, 2) := by decide +kernel
theorem dX12_text_104 : decode cX12_text 104 = .ok (.if_icmp .ge 19, 3) := by decide +kernel
theorem dX12_text_107 : decode cX12_text 107 = .ok (.aload_n 0, 1) := by decide +kernel
theorem dX12_text_108 : decode cX12_text 108 = .ok (.getfield 16, 3) := by decide +kernel
theorem dX12_text_111 : decode cX12_text 111 = .ok (.bipush 64, 2) := by decide +kernel
theorem dX12_text_113 : decode cX12_text 113 = .ok (.iload_n 2, 1) := by decide +kernel
theorem dX12_text_114 : decode cX12_text 114 = .ok (.iadd, 1) := by decide +kernel
theorem dX12_text_115 : decode cX12_text 115 = .ok (.iconst 0, 1) := by decide +kernel
theorem dX12_text_116 : decode cX12_text 116 = .ok (.bastore, 1) := by decide +kernel
theorem dX12_text_117 : decode cX12_text 117 = .ok (.iinc 2 1, 3) := by decide +kernel
theorem dX12_text_120 : decode cX12_text 120 = .ok (.goto (-19), 3) := by decide +kernel
theorem dX12_text_123 : decode cX12_text 123 = .ok (.aload_n 0, 1) := by decide +kernel
theorem dX12_text_124 : decode cX12_text 124 = .ok (.iconst 0, 1) := by decide +kernel
theorem dX12_text_125 : decode cX12_text 125 = .ok (.putfield 276, 3) := by decide +kernel
theorem dX12_text_128 : decode cX12_text 128 = .ok (.aload_n 0, 1) := by decide +kernel
theorem dX12_text_129 : decode cX12_text 129 = .ok (.iconst 0, 1) := by decide +kernel
theorem dX12_text_130 : decode cX12_text 130 = .ok (.putfield 311, 3) := by decide +kernel
theorem dX12_text_133 : decode cX12_text 133 = .ok (.aload_n 0, 1) := by decide +kernel
theorem dX12_text_134 : decode cX12_text 134 = .ok (.iconst 0, 1) := by decide +kernel
theorem dX12_text_135 : decode cX12_text 135 = .ok (.putfield 351, 3) := by decide +kernel
theorem dX12_text_138 : decode cX12_text 138 = .ok (.aload_n 0, 1) := by decide +kernel
theorem dX12_text_139 : decode cX12_text 139 = .ok (.iconst 0, 1) := by decide +kernel
theorem dX12_text_140 : decode cX12_text 140 = .ok (.putfield 327, 3) := by decide +kernel
theorem dX12_text_143 : decode cX12_text 143 = .ok (.aload_n 0, 1) := by decide +kernel
theorem dX12_text_144 : decode cX12_text 144 = .ok (.invokevirtual 253, 3) := by decide +kernel
theorem dX12_text_147 : decode cX12_text 147 = .ok (.aload_n 0, 1) := by decide +kernel
theorem dX12_text_148 : decode cX12_text 148 = .ok (.getfield 247, 3) := by decide +kernel
theorem dX12_text_151 : decode cX12_text 151 = .ok (.ifCond .ne 18, 3) := by decide +kernel
theorem dX12_text_154 : decode cX12_text 154 = .ok (.aload_n 0, 1) := by decide +kernel
theorem dX12_text_155 : decode cX12_text 155 = .ok (.getfield 213, 3) := by decide +kernel
theorem dX12_text_158 : decode cX12_text 158 = .ok (.iconst 4, 1) := by decide +kernel
theorem dX12_text_159 : decode cX12_text 159 = .ok (.if_icmp .eq 10, 3) := by decide +kernel
theorem dX12_text_162 : decode cX12_text 162 = .ok (.aload_n 0, 1) := by decide +kernel
theorem dX12_text_163 : decode cX12_text 163 = .ok (.invokevirtual 354, 3) := by decide +kernel
theorem dX12_text_166 : decode cX12_text 166 = .ok (.goto (-19), 3) := by decide +kernel
theorem dX12_text_169 : decode cX12_text 169 = .ok (.aload_n 0, 1) := by decide +kernel
theorem dX12_text_170 : decode cX12_text 170 = .ok (.aload_n 0, 1) := by decide +kernel
theorem dX12_text_171 : decode cX12_text 171 = .ok (.getfield 247, 3) := by decide +kernel
theorem dX12_text_174 : decode cX12_text 174 = .ok (.putfield 357, 3) := by decide +kernel
theorem dX12_text_177 : decode cX12_text 177 = .ok (.aload_n 0, 1) := by decide +kernel
theorem dX12_text_178 : decode cX12_text 178 = .ok (.aload_n 0, 1) := by decide +kernel
theorem dX12_text_179 : decode cX12_text 179 = .ok (.getfield 250, 3) := by decide +kernel
theorem dX12_text_182 : decode cX12_text 182 = .ok (.putfield 80, 3) := by decide +kernel
theorem dX12_text_185 : decode cX12_text 185 = .ok (.aload_n 0, 1) := by decide +kernel
theorem dX12_text_186 : decode cX12_text 186 = .ok (.getfield 247, 3) := by decide +kernel
theorem dX12_text_189 : decode cX12_text 189 = .ok (.ifCond .eq 5, 3) := by decide +kernel
theorem dX12_text_192 : decode cX12_text 192 = .ok (.iconst (-1), 1) := by decide +kernel
theorem dX12_text_193 : decode cX12_text 193 = .ok (.ireturn, 1) := by decide +kernel
theorem dX12_text_194 : decode cX12_text 194 = .ok (.aload_n 0, 1) := by decide +kernel
theorem dX12_text_195 : decode cX12_text 195 = .ok (.getfield 13, 3) := by decide +kernel
theorem dX12_text_198 : decode cX12_text 198 = .ok (.invokestatic 360, 3) := by decide +kernel
theorem dX12_text_201 : decode cX12_text 201 = .ok (.iconst 0, 1) := by decide +kernel
theorem dX12_text_202 : decode cX12_text 202 = .ok (.istore_n 2, 1) := by decide +kernel
theorem dX12_text_203 : decode cX12_text 203 = .ok (.iload_n 2, 1) := by decide +kernel
theorem dX12_text_204 : decode cX12_text 204 = .ok (.bipush 64, 2) := by decide +kernel
theorem dX12_text_206 : decode cX12_text 206 = .ok (.if_icmp .ge 24, 3) := by decide +kernel
theorem dX12_text_209 : decode cX12_text 209 = .ok (.aload_n 0, 1) := by decide +kernel
theorem dX12_text_210 : decode cX12_text 210 = .ok (.getfield 16, 3) := by decide +kernel
theorem dX12_text_213 : decode cX12_text 213 = .ok (.iload_n 2, 1) := by decide +kernel
theorem dX12_text_214 : decode cX12_text 214 = .ok (.aload_n 0, 1) := by decide +kernel
theorem dX12_text_215 : decode cX12_text 215 = .ok (.getfield 16, 3) := by decide +kernel
theorem dX12_text_218 : decode cX12_text 218 = .ok (.bipush 64, 2) := by decide +kernel
theorem dX12_text_220 : decode cX12_text 220 = .ok (.iload_n 2, 1) := by decide +kernel
theorem dX12_text_221 : decode cX12_text 221 = .ok (.iadd, 1) := by decide +kernel
theorem dX12_text_222 : decode cX12_text 222 = .ok (.baload, 1) := by decide +kernel
theorem dX12_text_223 : decode cX12_text 223 = .ok (.bastore, 1) := by decide +kernel
theorem dX12_text_224 : decode cX12_text 224 = .ok (.iinc 2 1, 3) := by decide +kernel
theorem dX12_text_227 : decode cX12_text 227 = .ok (.goto (-24), 3) := by decide +kernel
theorem dX12_text_230 : decode cX12_text 230 = .ok (.aload_n 0, 1) := by decide +kernel
theorem dX12_text_231 : decode cX12_text 231 = .ok (.getfield 20, 3) := by decide +kernel
theorem dX12_text_234 : decode cX12_text 234 = .ok (.invokestatic 360, 3) := by decide +kernel
theorem dX12_text_237 : decode cX12_text 237 = .ok (.aload_n 0, 1) := by decide +kernel
theorem dX12_text_238 : decode cX12_text 238 = .ok (.getfield 23, 3) := by decide +kernel
theorem dX12_text_241 : decode cX12_text 241 = .ok (.invokestatic 360, 3) := by decide +kernel
theorem dX12_text_244 : decode cX12_text 244 = .ok (.aload_n 0, 1) := by decide +kernel
theorem dX12_text_245 : decode cX12_text 245 = .ok (.getfield 26, 3) := by decide +kernel
theorem dX12_text_248 : decode cX12_text 248 = .ok (.invokestatic 360, 3) := by decide +kernel
theorem dX12_text_251 : decode cX12_text 251 = .ok (.aload_n 0, 1) := by decide +kernel
theorem dX12_text_252 : decode cX12_text 252 = .ok (.getfield 29, 3) := by decide +kernel
theorem dX12_text_255 : decode cX12_text 255 = .ok (.invokestatic 360, 3) := by decide +kernel
theorem dX12_text_258 : decode cX12_text 258 = .ok (.aload_n 0, 1) := by decide +kernel
theorem dX12_text_259 : decode cX12_text 259 = .ok (.getfield 32, 3) := by decide +kernel
theorem dX12_text_262 : decode cX12_text 262 = .ok (.invokestatic 360, 3) := by decide +kernel
theorem dX12_text_265 : decode cX12_text 265 = .ok (.aload_n 0, 1) := by decide +kernel
theorem dX12_text_266 : decode cX12_text 266 = .ok (.getfield 35, 3) := by decide +kernel
theorem dX12_text_269 : decode cX12_text 269 = .ok (.invokestatic 360, 3) := by decide +kernel
theorem dX12_text_272 : decode cX12_text 272 = .ok (.aload_n 0, 1) := by decide +kernel
theorem dX12_text_273 : decode cX12_text 273 = .ok (.getfield 38, 3) := by decide +kernel
theorem dX12_text_276 : decode cX12_text 276 = .ok (.invokestatic 360, 3) := by decide +kernel
theorem dX12_text_279 : decode cX12_text 279 = .ok (.aload_n 0, 1) := by decide +kernel
theorem dX12_text_280 : decode cX12_text 280 = .ok (.getfield 41, 3) := by decide +kernel
theorem dX12_text_283 : decode cX12_text 283 = .ok (.invokestatic 360, 3) := by decide +kernel
theorem dX12_text_286 : decode cX12_text 286 = .ok (.aload_n 0, 1) := by decide +kernel
theorem dX12_text_287 : decode cX12_text 287 = .ok (.getfield 44, 3) := by decide +kernel
theorem dX12_text_290 : decode cX12_text 290 = .ok (.invokestatic 360, 3) := by decide +kernel
theorem dX12_text_293 : decode cX12_text 293 = .ok (.aload_n 0, 1) := by decide +kernel
theorem dX12_text_294 : decode cX12_text 294 = .ok (.getfield 47, 3) := by decide +kernel
theorem dX12_text_297 : decode cX12_text 297 = .ok (.invokestatic 360, 3) := by decide +kernel
theorem dX12_text_300 : decode cX12_text 300 = .ok (.aload_n 0, 1) := by decide +kernel
theorem dX12_text_301 : decode cX12_text 301 = .ok (.getfield 50, 3) := by decide +kernel
theorem dX12_text_304 : decode cX12_text 304 = .ok (.invokestatic 360, 3) := by decide +kernel
theorem dX12_text_307 : decode cX12_text 307 = .ok (.aload_n 0, 1) := by decide +kernel
theorem dX12_text_308 : decode cX12_text 308 = .ok (.getfield 53, 3) := by decide +kernel
theorem dX12_text_311 : decode cX12_text 311 = .ok (.invokestatic 360, 3) := by decide +kernel
theorem dX12_text_314 : decode cX12_text 314 = .ok (.aload_n 0, 1) := by decide +kernel
theorem dX12_text_315 : decode cX12_text 315 = .ok (.getfield 56, 3) := by decide +kernel
theorem dX12_text_318 : decode cX12_text 318 = .ok (.invokestatic 360, 3) := by decide +kernel
theorem dX12_text_321 : decode cX12_text 321 = .ok (.aload_n 0, 1) := by decide +kernel
theorem dX12_text_322 : decode cX12_text 322 = .ok (.getfield 59, 3) := by decide +kernel
theorem dX12_text_325 : decode cX12_text 325 = .ok (.invokestatic 360, 3) := by decide +kernel
theorem dX12_text_328 : decode cX12_text 328 = .ok (.aload_n 0, 1) := by decide +kernel
theorem dX12_text_329 : decode cX12_text 329 = .ok (.getfield 62, 3) := by decide +kernel
theorem dX12_text_332 : decode cX12_text 332 = .ok (.invokestatic 360, 3) := by decide +kernel
theorem dX12_text_335 : decode cX12_text 335 = .ok (.aload_n 0, 1) := by decide +kernel
theorem dX12_text_336 : decode cX12_text 336 = .ok (.getfield 65, 3) := by decide +kernel
theorem dX12_text_339 : decode cX12_text 339 = .ok (.invokestatic 360, 3) := by decide +kernel
theorem dX12_text_342 : decode cX12_text 342 = .ok (.aload_n 0, 1) := by decide +kernel
theorem dX12_text_343 : decode cX12_text 343 = .ok (.getfield 68, 3) := by decide +kernel
theorem dX12_text_346 : decode cX12_text 346 = .ok (.invokestatic 360, 3) := by decide +kernel
theorem dX12_text_349 : decode cX12_text 349 = .ok (.aload_n 0, 1) := by decide +kernel
theorem dX12_text_350 : decode cX12_text 350 = .ok (.getfield 71, 3) := by decide +kernel
theorem dX12_text_353 : decode cX12_text 353 = .ok (.invokestatic 360, 3) := by decide +kernel
theorem dX12_text_356 : decode cX12_text 356 = .ok (.aload_n 0, 1) := by decide +kernel
theorem dX12_text_357 : decode cX12_text 357 = .ok (.getfield 74, 3) := by decide +kernel
theorem dX12_text_360 : decode cX12_text 360 = .ok (.invokestatic 360, 3) := by decide +kernel
theorem dX12_text_363 : decode cX12_text 363 = .ok (.aload_n 0, 1) := by decide +kernel
theorem dX12_text_364 : decode cX12_text 364 = .ok (.getfield 77, 3) := by decide +kernel
theorem dX12_text_367 : decode cX12_text 367 = .ok (.invokestatic 360, 3) := by decide +kernel
theorem dX12_text_370 : decode cX12_text 370 = .ok (.aload_n 0, 1) := by decide +kernel
theorem dX12_text_371 : decode cX12_text 371 = .ok (.iconst 0, 1) := by decide +kernel
theorem dX12_text_372 : decode cX12_text 372 = .ok (.putfield 364, 3) := by decide +kernel
theorem dX12_text_375 : decode cX12_text 375 = .ok (.aload_n 0, 1) := by decide +kernel
theorem dX12_text_376 : decode cX12_text 376 = .ok (.iconst (-1), 1) := by decide +kernel
theorem dX12_text_377 : decode cX12_text 377 = .ok (.putfield 172, 3) := by decide +kernel
theorem dX12_text_380 : decode cX12_text 380 = .ok (.aload_n 0, 1) := by decide +kernel
theorem dX12_text_381 : decode cX12_text 381 = .ok (.iconst 0, 1) := by decide +kernel
theorem dX12_text_382 : decode cX12_text 382 = .ok (.putfield 367, 3) := by decide +kernel
theorem dX12_text_385 : decode cX12_text 385 = .ok (.aload_n 0, 1) := by decide +kernel
theorem dX12_text_386 : decode cX12_text 386 = .ok (.iconst 0, 1) := by decide +kernel
theorem dX12_text_387 : decode cX12_text 387 = .ok (.putfield 371, 3) := by decide +kernel
theorem dX12_text_390 : decode cX12_text 390 = .ok (.aload_n 0, 1) := by decide +kernel
theorem dX12_text_391 : decode cX12_text 391 = .ok (.invokevirtual 187, 3) := by decide +kernel
theorem dX12_text_394 : decode cX12_text 394 = .ok (.aload_n 0, 1) := by decide +kernel
theorem dX12_text_395 : decode cX12_text 395 = .ok (.iconst 0, 1) := by decide +kernel
theorem dX12_text_396 : decode cX12_text 396 = .ok (.invokevirtual 190, 3) := by decide +kernel
theorem dX12_text_399 : decode cX12_text 399 = .ok (.aload_n 0, 1) := by decide +kernel
theorem dX12_text_400 : decode cX12_text 400 = .ok (.getfield 311, 3) := by decide +kernel
theorem dX12_text_403 : decode cX12_text 403 = .ok (.ireturn, 1) := by decide +kernel
noncomputable def b_X12_text_0 (rec : Rk) (x1 : Int) (h : Hp) : Option (Int × Hp) :=
  lt (sI h 12 0 0 0) fun h1 =>
  if x1 < 0 then (
    some ((-2), h1)
  ) else (
    if x1 ≤ (gI h1 12 0 2) then (
      lt (sI h1 12 0 27 x1) fun h2 =>
      lt (sI h2 12 0 2 0) fun h3 =>
      lt (sI h3 12 0 28 0) fun h4 =>
      lt (sI h4 12 0 32 0) fun h5 =>
      lt (sI h5 12 0 33 (-1)) fun h6 =>
      rec 1 [0] h6
    ) else (
      some ((-2), h1)
    )
  )
noncomputable def b_X12_text_1 (rec : Rk) (x2 : Int) (h : Hp) : Option (Int × Hp) :=
  if 15 ≤ x2 then (
    rec 4 [0] h
  ) else (
    if x2 = 0 then (
      rec 2 [x2, x2] h
    ) else (
      if x2 = 1 then (
        rec 2 [x2, x2] h
      ) else (
        if x2 = 9 then (
          rec 3 [x2, 1, x2] h
        ) else (
          if x2 = 10 then (
            rec 3 [x2, 100, x2] h
          ) else (
            rec 3 [x2, 0, x2] h
          )
        )
      )
    )
  )
noncomputable def b_X12_text_2 (rec : Rk) (x2 y0 : Int) (h : Hp) : Option (Int × Hp) :=
  rec 3 [x2, 4, y0] h
noncomputable def b_X12_text_3 (rec : Rk) (x2 y0 y1 : Int) (h : Hp) : Option (Int × Hp) :=
  bd (f_X12_reads y1 y0 h) fun v1 h2 =>
  ck (-2147483648 ≤ x2 + 1 ∧ x2 + 1 < 2147483648) <|
  rec 1 [x2 + 1] h2
noncomputable def b_X12_text_4 (rec : Rk) (x2 : Int) (h : Hp) : Option (Int × Hp) :=
  if 64 ≤ x2 then (
    lt (sI h 12 0 25 0) fun h1 =>
    lt (sI h1 12 0 26 0) fun h2 =>
    lt (sI h2 12 0 36 0) fun h3 =>
    lt (sI h3 12 0 37 0) fun h4 =>
    bd (f_X12_token h4) fun v5 h6 =>
    rec 5 [] h6
  ) else (
    ck (-2147483648 ≤ 64 + x2 ∧ 64 + x2 < 2147483648) <|
    ck (0 ≤ (64 + x2) ∧ (64 + x2) < 128) <|
    lt (sI h 62 0 (64 + x2) 0) fun h7 =>
    ck (-2147483648 ≤ x2 + 1 ∧ x2 + 1 < 2147483648) <|
    rec 4 [x2 + 1] h7
  )
noncomputable def b_X12_text_5 (rec : Rk) (h : Hp) : Option (Int × Hp) :=
  if (gI h 12 0 32) = 0 then (
    if (gI h 12 0 30) = 4 then (
      rec 6 [] h
    ) else (
      bd (f_X12_line h) fun v1 h2 =>
      rec 5 [] h2
    )
  ) else (
    rec 6 [] h
  )
noncomputable def b_X12_text_6 (rec : Rk) (h : Hp) : Option (Int × Hp) :=
  lt (sI h 12 0 34 (gI h 12 0 32)) fun h1 =>
  lt (sI h1 12 0 35 (gI h1 12 0 33)) fun h2 =>
  if (gI h2 12 0 32) = 0 then (
    bd (f_X12_half_r61 h2) fun v3 h4 =>
    rec 7 [0] h4
  ) else (
    some ((-1), h2)
  )
noncomputable def b_X12_text_7 (rec : Rk) (x2 : Int) (h : Hp) : Option (Int × Hp) :=
  if 64 ≤ x2 then (
    bd (f_X12_half_r63 h) fun v1 h2 =>
    bd (f_X12_half_r64 h2) fun v3 h4 =>
    bd (f_X12_half_r65 h4) fun v5 h6 =>
    bd (f_X12_half_r66 h6) fun v7 h8 =>
    bd (f_X12_half_r67 h8) fun v9 h10 =>
    bd (f_X12_half_r68 h10) fun v11 h12 =>
    bd (f_X12_half_r69 h12) fun v13 h14 =>
    bd (f_X12_half_r70 h14) fun v15 h16 =>
    bd (f_X12_half_r71 h16) fun v17 h18 =>
    bd (f_X12_half_r72 h18) fun v19 h20 =>
    bd (f_X12_half_r73 h20) fun v21 h22 =>
    bd (f_X12_half_r74 h22) fun v23 h24 =>
    bd (f_X12_half_r75 h24) fun v25 h26 =>
    bd (f_X12_half_r76 h26) fun v27 h28 =>
    bd (f_X12_half_r77 h28) fun v29 h30 =>
    bd (f_X12_half_r78 h30) fun v31 h32 =>
    bd (f_X12_half_r79 h32) fun v33 h34 =>
    bd (f_X12_half_r80 h34) fun v35 h36 =>
    bd (f_X12_half_r81 h36) fun v37 h38 =>
    bd (f_X12_half_r82 h38) fun v39 h40 =>
    lt (sI h40 12 0 74 0) fun h41 =>
    lt (sI h41 12 0 75 (-1)) fun h42 =>
    lt (sI h42 12 0 53 0) fun h43 =>
    lt (sI h43 12 0 54 0) fun h44 =>
    bd (f_X12_layFar h44) fun v45 h46 =>
    bd (f_X12_begins 0 h46) fun v47 h48 =>
    some (gI h48 12 0 26, h48)
  ) else (
    ck (-2147483648 ≤ 64 + x2 ∧ 64 + x2 < 2147483648) <|
    ck (0 ≤ (64 + x2) ∧ (64 + x2) < 128) <|
    ck (0 ≤ x2 ∧ x2 < 128) <|
    ck (0 ≤ (gI h 62 0 (64 + x2)) ∧ (gI h 62 0 (64 + x2)) < 2) <|
    lt (sI h 62 0 x2 (gI h 62 0 (64 + x2))) fun h49 =>
    ck (-2147483648 ≤ x2 + 1 ∧ x2 + 1 < 2147483648) <|
    rec 7 [x2 + 1] h49
  )
noncomputable def g_X12_text (n : Nat) : Rk := Nat.rec (motive := fun _ => Rk) (fun _ _ _ => none) (fun _ rec k l h => if k = 0 then b_X12_text_0 rec (l.getD 0 0) h else if k = 1 then b_X12_text_1 rec (l.getD 0 0) h else if k = 2 then b_X12_text_2 rec (l.getD 0 0) (l.getD 1 0) h else if k = 3 then b_X12_text_3 rec (l.getD 0 0) (l.getD 1 0) (l.getD 2 0) h else if k = 4 then b_X12_text_4 rec (l.getD 0 0) h else if k = 5 then b_X12_text_5 rec  h else if k = 6 then b_X12_text_6 rec  h else if k = 7 then b_X12_text_7 rec (l.getD 0 0) h else none) n
noncomputable def f_X12_text (x1 : Int) (h : Hp) : Option (Int × Hp) := g_X12_text FU 0 [x1] h
set_option maxHeartbeats 4000000 in
set_option maxRecDepth 100000 in
theorem t_X12_text_0 (E : xE) (d : Nat) (rec : Rk) (r : Int × Hp) (hr_47 : ∀ (x2 : Int) (h : Hp), Lay h → rec 1 [x2] h = some r → X E mX12_text (d + 1010) (0, 0) (0, 0) 47 [some (xr 12 0), none, some (xi x2)] [] h (PoI r)) (x1 : Int) (h : Hp) (hL : Lay h) (hF : b_X12_text_0 rec x1 h = some r) : X E mX12_text (d + 1010) (0, 0) (0, 0) 0 [some (xr 12 0), some (xi x1), none] [] h (PoI r) := by
  unfold b_X12_text_0 at hF
  refine x_aload_n (i := 0) (b := 1) dX12_text_0 rfl rfl rfl ?_
  refine x_iconst (n := 0) (b := 2) dX12_text_1 (by decide) rfl ?_
  refine x_putI (b := 5) fk_X12_194 dX12_text_2 rfl rfl 0 rfl ?_
  obtain ⟨h1, e_h1, hF⟩ := lt_e hF
  refine x_hp (h2 := h1) e_h1 ?_
  replace hL : Lay h1 := by rw [← e_h1]; exact hL
  refine x_iload_n (i := 1) (b := 6) dX12_text_5 rfl rfl rfl ?_
  refine x_if_lt (tgt := 17) (b := 9) dX12_text_6 (by decide) rfl (fun hc => ?_) (fun hc => ?_)
  · replace hF := br_T hc hF
    refine x_bipush (n := (-2)) (b := 19) dX12_text_17 (by decide) rfl ?_
    refine x_ireturn dX12_text_19 rfl ⟨Nat.le_refl _, Nat.le_refl _⟩ ?_
    cases hF
    exact ⟨rfl, rfl, hL⟩
  · replace hF := br_F hc hF
    refine x_iload_n (i := 1) (b := 10) dX12_text_9 rfl rfl rfl ?_
    refine x_aload_n (i := 0) (b := 11) dX12_text_10 rfl rfl rfl ?_
    refine x_getI (v := gI h1 12 0 2) (b := 14) fk_X12_197 dX12_text_11 (by decide) rfl rfl ?_
    refine x_icmp_le (tgt := 20) (b := 17) dX12_text_14 (by decide) rfl (fun hc => ?_) (fun hc => ?_)
    · replace hF := br_T hc hF
      refine x_aload_n (i := 0) (b := 21) dX12_text_20 rfl rfl rfl ?_
      refine x_iload_n (i := 1) (b := 22) dX12_text_21 rfl rfl rfl ?_
      refine x_putI (b := 25) fk_X12_203 dX12_text_22 rfl rfl 27 rfl ?_
      obtain ⟨h2, e_h2, hF⟩ := lt_e hF
      refine x_hp (h2 := h2) e_h2 ?_
      replace hL : Lay h2 := by rw [← e_h2]; exact hL
      refine x_aload_n (i := 0) (b := 26) dX12_text_25 rfl rfl rfl ?_
      refine x_iconst (n := 0) (b := 27) dX12_text_26 (by decide) rfl ?_
      refine x_putI (b := 30) fk_X12_197 dX12_text_27 rfl rfl 2 rfl ?_
      obtain ⟨h3, e_h3, hF⟩ := lt_e hF
      refine x_hp (h2 := h3) e_h3 ?_
      replace hL : Lay h3 := by rw [← e_h3]; exact hL
      refine x_aload_n (i := 0) (b := 31) dX12_text_30 rfl rfl rfl ?_
      refine x_iconst (n := 0) (b := 32) dX12_text_31 (by decide) rfl ?_
      refine x_putI (b := 35) fk_X12_200 dX12_text_32 rfl rfl 28 rfl ?_
      obtain ⟨h4, e_h4, hF⟩ := lt_e hF
      refine x_hp (h2 := h4) e_h4 ?_
      replace hL : Lay h4 := by rw [← e_h4]; exact hL
      refine x_aload_n (i := 0) (b := 36) dX12_text_35 rfl rfl rfl ?_
      refine x_iconst (n := 0) (b := 37) dX12_text_36 (by decide) rfl ?_
      refine x_putI (b := 40) fk_X12_247 dX12_text_37 rfl rfl 32 rfl ?_
      obtain ⟨h5, e_h5, hF⟩ := lt_e hF
      refine x_hp (h2 := h5) e_h5 ?_
      replace hL : Lay h5 := by rw [← e_h5]; exact hL
      refine x_aload_n (i := 0) (b := 41) dX12_text_40 rfl rfl rfl ?_
      refine x_iconst (n := (-1)) (b := 42) dX12_text_41 (by decide) rfl ?_
      refine x_putI (b := 45) fk_X12_250 dX12_text_42 rfl rfl 33 rfl ?_
      obtain ⟨h6, e_h6, hF⟩ := lt_e hF
      refine x_hp (h2 := h6) e_h6 ?_
      replace hL : Lay h6 := by rw [← e_h6]; exact hL
      refine x_iconst (n := 0) (b := 46) dX12_text_45 (by decide) rfl ?_
      refine x_istore_n (i := 2) (b := 47) (ls2 := [some (xr 12 0), some (xi x1), some (xi 0)]) dX12_text_46 rfl (Nat.le_of_ble_eq_true rfl) rfl rfl ?_
      exact x_dp (ls2 := [some (xr 12 0), none, some (xi 0)]) ⟨rfl, rfl, trivial⟩ (hr_47 0 h6 hL hF)
    · replace hF := br_F hc hF
      refine x_bipush (n := (-2)) (b := 19) dX12_text_17 (by decide) rfl ?_
      refine x_ireturn dX12_text_19 rfl ⟨Nat.le_refl _, Nat.le_refl _⟩ ?_
      cases hF
      exact ⟨rfl, rfl, hL⟩
set_option maxHeartbeats 4000000 in
set_option maxRecDepth 100000 in
theorem t_X12_text_1 (E : xE) (d : Nat) (rec : Rk) (r : Int × Hp) (hr_64 : ∀ (x2 y0 : Int) (h : Hp), Lay h → rec 2 [x2, y0] h = some r → X E mX12_text (d + 1010) (0, 0) (0, 0) 64 [some (xr 12 0), none, some (xi x2)] [xi y0, xr 12 0] h (PoI r)) (hr_90 : ∀ (x2 y0 y1 : Int) (h : Hp), Lay h → rec 3 [x2, y0, y1] h = some r → X E mX12_text (d + 1010) (0, 0) (0, 0) 90 [some (xr 12 0), none, some (xi x2)] [xi y0, xi y1, xr 12 0] h (PoI r)) (hr_101 : ∀ (x2 : Int) (h : Hp), Lay h → rec 4 [x2] h = some r → X E mX12_text (d + 1010) (0, 0) (0, 0) 101 [some (xr 12 0), none, some (xi x2)] [] h (PoI r)) (x2 : Int) (h : Hp) (hL : Lay h) (hF : b_X12_text_1 rec x2 h = some r) : X E mX12_text (d + 1010) (0, 0) (0, 0) 47 [some (xr 12 0), none, some (xi x2)] [] h (PoI r) := by
  unfold b_X12_text_1 at hF
  refine x_iload_n (i := 2) (b := 48) dX12_text_47 rfl rfl rfl ?_
  refine x_bipush (n := 15) (b := 50) dX12_text_48 (by decide) rfl ?_
  refine x_icmp_ge (tgt := 99) (b := 53) dX12_text_50 (by decide) rfl (fun hc => ?_) (fun hc => ?_)
  · replace hF := br_T hc hF
    refine x_iconst (n := 0) (b := 100) dX12_text_99 (by decide) rfl ?_
    refine x_istore_n (i := 2) (b := 101) (ls2 := [some (xr 12 0), none, some (xi 0)]) dX12_text_100 rfl (Nat.le_of_ble_eq_true rfl) rfl rfl ?_
    exact x_dp (ls2 := [some (xr 12 0), none, some (xi 0)]) ⟨rfl, rfl, trivial⟩ (hr_101 0 h hL hF)
  · replace hF := br_F hc hF
    refine x_aload_n (i := 0) (b := 54) dX12_text_53 rfl rfl rfl ?_
    refine x_iload_n (i := 2) (b := 55) dX12_text_54 rfl rfl rfl ?_
    refine x_iload_n (i := 2) (b := 56) dX12_text_55 rfl rfl rfl ?_
    refine x_if_eq (tgt := 64) (b := 59) dX12_text_56 (by decide) rfl (fun hc => ?_) (fun hc => ?_)
    · replace hF := br_T hc hF
      exact x_dp (ls2 := [some (xr 12 0), none, some (xi x2)]) ⟨rfl, rfl, trivial⟩ (hr_64 x2 x2 h hL hF)
    · replace hF := br_F hc hF
      refine x_iload_n (i := 2) (b := 60) dX12_text_59 rfl rfl rfl ?_
      refine x_iconst (n := 1) (b := 61) dX12_text_60 (by decide) rfl ?_
      refine x_icmp_ne (tgt := 68) (b := 64) dX12_text_61 (by decide) rfl (fun hc => ?_) (fun hc => ?_)
      · replace hF := br_F hc hF
        refine x_iload_n (i := 2) (b := 69) dX12_text_68 rfl rfl rfl ?_
        refine x_bipush (n := 9) (b := 71) dX12_text_69 (by decide) rfl ?_
        refine x_icmp_ne (tgt := 78) (b := 74) dX12_text_71 (by decide) rfl (fun hc => ?_) (fun hc => ?_)
        · replace hF := br_F hc hF
          refine x_iload_n (i := 2) (b := 79) dX12_text_78 rfl rfl rfl ?_
          refine x_bipush (n := 10) (b := 81) dX12_text_79 (by decide) rfl ?_
          refine x_icmp_ne (tgt := 89) (b := 84) dX12_text_81 (by decide) rfl (fun hc => ?_) (fun hc => ?_)
          · replace hF := br_F hc hF
            refine x_iconst (n := 0) (b := 90) dX12_text_89 (by decide) rfl ?_
            exact x_dp (ls2 := [some (xr 12 0), none, some (xi x2)]) ⟨rfl, rfl, trivial⟩ (hr_90 x2 0 x2 h hL hF)
          · replace hF := br_T hc hF
            refine x_bipush (n := 100) (b := 86) dX12_text_84 (by decide) rfl ?_
            refine x_goto (tgt := 90) dX12_text_86 (by decide) ?_
            exact x_dp (ls2 := [some (xr 12 0), none, some (xi x2)]) ⟨rfl, rfl, trivial⟩ (hr_90 x2 100 x2 h hL hF)
        · replace hF := br_T hc hF
          refine x_iconst (n := 1) (b := 75) dX12_text_74 (by decide) rfl ?_
          refine x_goto (tgt := 90) dX12_text_75 (by decide) ?_
          exact x_dp (ls2 := [some (xr 12 0), none, some (xi x2)]) ⟨rfl, rfl, trivial⟩ (hr_90 x2 1 x2 h hL hF)
      · replace hF := br_T hc hF
        exact x_dp (ls2 := [some (xr 12 0), none, some (xi x2)]) ⟨rfl, rfl, trivial⟩ (hr_64 x2 x2 h hL hF)
set_option maxHeartbeats 4000000 in
set_option maxRecDepth 100000 in
theorem t_X12_text_2 (E : xE) (d : Nat) (rec : Rk) (r : Int × Hp) (hr_90 : ∀ (x2 y0 y1 : Int) (h : Hp), Lay h → rec 3 [x2, y0, y1] h = some r → X E mX12_text (d + 1010) (0, 0) (0, 0) 90 [some (xr 12 0), none, some (xi x2)] [xi y0, xi y1, xr 12 0] h (PoI r)) (x2 y0 : Int) (h : Hp) (hL : Lay h) (hF : b_X12_text_2 rec x2 y0 h = some r) : X E mX12_text (d + 1010) (0, 0) (0, 0) 64 [some (xr 12 0), none, some (xi x2)] [xi y0, xr 12 0] h (PoI r) := by
  unfold b_X12_text_2 at hF
  refine x_iconst (n := 4) (b := 65) dX12_text_64 (by decide) rfl ?_
  refine x_goto (tgt := 90) dX12_text_65 (by decide) ?_
  exact x_dp (ls2 := [some (xr 12 0), none, some (xi x2)]) ⟨rfl, rfl, trivial⟩ (hr_90 x2 4 y0 h hL hF)
set_option maxHeartbeats 4000000 in
set_option maxRecDepth 100000 in
theorem t_X12_text_3 (E : xE) (d : Nat) (rec : Rk) (r : Int × Hp) (hr_47 : ∀ (x2 : Int) (h : Hp), Lay h → rec 1 [x2] h = some r → X E mX12_text (d + 1010) (0, 0) (0, 0) 47 [some (xr 12 0), none, some (xi x2)] [] h (PoI r)) (x2 y0 y1 : Int) (h : Hp) (hL : Lay h) (hF : b_X12_text_3 rec x2 y0 y1 h = some r) : X E mX12_text (d + 1010) (0, 0) (0, 0) 90 [some (xr 12 0), none, some (xi x2)] [xi y0, xi y1, xr 12 0] h (PoI r) := by
  unfold b_X12_text_3 at hF
  obtain ⟨v1, h2, hq, hF⟩ := bd_e hF
  refine x_callV (as := [xi y1, xi y0]) (rest := []) (b := 93) (c_X12_reads (d + 1008) y1 y0 h _ hL hq) dX12_text_90 cw_X12_288 ⟨_, _, rfl, Nat.le_of_ble_eq_true rfl⟩ rfl rfl (Nat.le_of_ble_eq_true rfl) ⟨Nat.le_refl _, Nat.le_refl _⟩ rfl (fun rv hh hp _ => ?_)
  obtain ⟨rfl, rfl, hL⟩ := hp
  obtain ⟨hs, hF⟩ := ck_e hF
  refine x_iinc (i := 2) (b := 96) (ls2 := [some (xr 12 0), none, some (xi (x2 + 1))]) dX12_text_93 rfl (Nat.le_of_ble_eq_true rfl) hs rfl rfl ?_
  refine x_goto (tgt := 47) dX12_text_96 (by decide) ?_
  exact x_dp (ls2 := [some (xr 12 0), none, some (xi (x2 + 1))]) ⟨rfl, rfl, trivial⟩ (hr_47 (x2 + 1) h2 hL hF)
set_option maxHeartbeats 4000000 in
set_option maxRecDepth 100000 in
theorem t_X12_text_4 (E : xE) (d : Nat) (rec : Rk) (r : Int × Hp) (hr_101 : ∀ (x2 : Int) (h : Hp), Lay h → rec 4 [x2] h = some r → X E mX12_text (d + 1010) (0, 0) (0, 0) 101 [some (xr 12 0), none, some (xi x2)] [] h (PoI r)) (hr_147 : ∀ (h : Hp), Lay h → rec 5 [] h = some r → X E mX12_text (d + 1010) (0, 0) (0, 0) 147 [some (xr 12 0), none, none] [] h (PoI r)) (x2 : Int) (h : Hp) (hL : Lay h) (hF : b_X12_text_4 rec x2 h = some r) : X E mX12_text (d + 1010) (0, 0) (0, 0) 101 [some (xr 12 0), none, some (xi x2)] [] h (PoI r) := by
  unfold b_X12_text_4 at hF
  refine x_iload_n (i := 2) (b := 102) dX12_text_101 rfl rfl rfl ?_
  refine x_bipush (n := 64) (b := 104) dX12_text_102 (by decide) rfl ?_
  refine x_icmp_ge (tgt := 123) (b := 107) dX12_text_104 (by decide) rfl (fun hc => ?_) (fun hc => ?_)
  · replace hF := br_T hc hF
    refine x_aload_n (i := 0) (b := 124) dX12_text_123 rfl rfl rfl ?_
    refine x_iconst (n := 0) (b := 125) dX12_text_124 (by decide) rfl ?_
    refine x_putI (b := 128) fk_X12_276 dX12_text_125 rfl rfl 25 rfl ?_
    obtain ⟨h1, e_h1, hF⟩ := lt_e hF
    refine x_hp (h2 := h1) e_h1 ?_
    replace hL : Lay h1 := by rw [← e_h1]; exact hL
    refine x_aload_n (i := 0) (b := 129) dX12_text_128 rfl rfl rfl ?_
    refine x_iconst (n := 0) (b := 130) dX12_text_129 (by decide) rfl ?_
    refine x_putI (b := 133) fk_X12_311 dX12_text_130 rfl rfl 26 rfl ?_
    obtain ⟨h2, e_h2, hF⟩ := lt_e hF
    refine x_hp (h2 := h2) e_h2 ?_
    replace hL : Lay h2 := by rw [← e_h2]; exact hL
    refine x_aload_n (i := 0) (b := 134) dX12_text_133 rfl rfl rfl ?_
    refine x_iconst (n := 0) (b := 135) dX12_text_134 (by decide) rfl ?_
    refine x_putI (b := 138) fk_X12_351 dX12_text_135 rfl rfl 36 rfl ?_
    obtain ⟨h3, e_h3, hF⟩ := lt_e hF
    refine x_hp (h2 := h3) e_h3 ?_
    replace hL : Lay h3 := by rw [← e_h3]; exact hL
    refine x_aload_n (i := 0) (b := 139) dX12_text_138 rfl rfl rfl ?_
    refine x_iconst (n := 0) (b := 140) dX12_text_139 (by decide) rfl ?_
    refine x_putI (b := 143) fk_X12_327 dX12_text_140 rfl rfl 37 rfl ?_
    obtain ⟨h4, e_h4, hF⟩ := lt_e hF
    refine x_hp (h2 := h4) e_h4 ?_
    replace hL : Lay h4 := by rw [← e_h4]; exact hL
    refine x_aload_n (i := 0) (b := 144) dX12_text_143 rfl rfl rfl ?_
    obtain ⟨v5, h6, hq, hF⟩ := bd_e hF
    refine x_callV (as := []) (rest := []) (b := 147) (c_X12_token (d + 1003) h4 _ hL hq) dX12_text_144 cw_X12_253 ⟨_, _, rfl, Nat.le_of_ble_eq_true rfl⟩ rfl rfl (Nat.le_of_ble_eq_true rfl) ⟨Nat.le_refl _, Nat.le_refl _⟩ rfl (fun rv hh hp _ => ?_)
    obtain ⟨rfl, rfl, hL⟩ := hp
    exact x_dp (ls2 := [some (xr 12 0), none, none]) ⟨rfl, trivial⟩ (hr_147  h6 hL hF)
  · replace hF := br_F hc hF
    refine x_aload_n (i := 0) (b := 108) dX12_text_107 rfl rfl rfl ?_
    refine x_getL (j := 0) (t := (62, 0, true)) (b := 111) fk_X12_16 dX12_text_108 rfl hL rfl rfl rfl ?_
    refine x_bipush (n := 64) (b := 113) dX12_text_111 (by decide) rfl ?_
    refine x_iload_n (i := 2) (b := 114) dX12_text_113 rfl rfl rfl ?_
    obtain ⟨hs, hF⟩ := ck_e hF
    refine x_iadd (b := 115) dX12_text_114 hs rfl ?_
    refine x_iconst (n := 0) (b := 116) dX12_text_115 (by decide) rfl ?_
    obtain ⟨hs, hF⟩ := ck_e hF
    have hs1 := hs
    refine x_zast (b := 117) ak_62 dX12_text_116 hs1 (by decide) rfl ?_
    obtain ⟨h7, e_h7, hF⟩ := lt_e hF
    refine x_hp (h2 := h7) e_h7 ?_
    replace hL : Lay h7 := by rw [← e_h7]; exact hL
    obtain ⟨hs, hF⟩ := ck_e hF
    refine x_iinc (i := 2) (b := 120) (ls2 := [some (xr 12 0), none, some (xi (x2 + 1))]) dX12_text_117 rfl (Nat.le_of_ble_eq_true rfl) hs rfl rfl ?_
    refine x_goto (tgt := 101) dX12_text_120 (by decide) ?_
    exact x_dp (ls2 := [some (xr 12 0), none, some (xi (x2 + 1))]) ⟨rfl, rfl, trivial⟩ (hr_101 (x2 + 1) h7 hL hF)
set_option maxHeartbeats 4000000 in
set_option maxRecDepth 100000 in
theorem t_X12_text_5 (E : xE) (d : Nat) (rec : Rk) (r : Int × Hp) (hr_147 : ∀ (h : Hp), Lay h → rec 5 [] h = some r → X E mX12_text (d + 1010) (0, 0) (0, 0) 147 [some (xr 12 0), none, none] [] h (PoI r)) (hr_169 : ∀ (h : Hp), Lay h → rec 6 [] h = some r → X E mX12_text (d + 1010) (0, 0) (0, 0) 169 [some (xr 12 0), none, none] [] h (PoI r)) (h : Hp) (hL : Lay h) (hF : b_X12_text_5 rec  h = some r) : X E mX12_text (d + 1010) (0, 0) (0, 0) 147 [some (xr 12 0), none, none] [] h (PoI r) := by
  unfold b_X12_text_5 at hF
  refine x_aload_n (i := 0) (b := 148) dX12_text_147 rfl rfl rfl ?_
  refine x_getI (v := gI h 12 0 32) (b := 151) fk_X12_247 dX12_text_148 (by decide) rfl rfl ?_
  refine x_if_ne (tgt := 169) (b := 154) dX12_text_151 (by decide) rfl (fun hc => ?_) (fun hc => ?_)
  · replace hF := br_F hc hF
    exact x_dp (ls2 := [some (xr 12 0), none, none]) ⟨rfl, trivial⟩ (hr_169  h hL hF)
  · replace hF := br_T hc hF
    refine x_aload_n (i := 0) (b := 155) dX12_text_154 rfl rfl rfl ?_
    refine x_getI (v := gI h 12 0 30) (b := 158) fk_X12_213 dX12_text_155 (by decide) rfl rfl ?_
    refine x_iconst (n := 4) (b := 159) dX12_text_158 (by decide) rfl ?_
    refine x_icmp_eq (tgt := 169) (b := 162) dX12_text_159 (by decide) rfl (fun hc => ?_) (fun hc => ?_)
    · replace hF := br_T hc hF
      exact x_dp (ls2 := [some (xr 12 0), none, none]) ⟨rfl, trivial⟩ (hr_169  h hL hF)
    · replace hF := br_F hc hF
      refine x_aload_n (i := 0) (b := 163) dX12_text_162 rfl rfl rfl ?_
      obtain ⟨v1, h2, hq, hF⟩ := bd_e hF
      refine x_callV (as := []) (rest := []) (b := 166) (c_X12_line d h _ hL hq) dX12_text_163 cw_X12_354 ⟨_, _, rfl, Nat.le_of_ble_eq_true rfl⟩ rfl rfl (Nat.le_of_ble_eq_true rfl) ⟨Nat.le_refl _, Nat.le_refl _⟩ rfl (fun rv hh hp _ => ?_)
      obtain ⟨rfl, rfl, hL⟩ := hp
      refine x_goto (tgt := 147) dX12_text_166 (by decide) ?_
      exact x_dp (ls2 := [some (xr 12 0), none, none]) ⟨rfl, trivial⟩ (hr_147  h2 hL hF)
set_option maxHeartbeats 4000000 in
set_option maxRecDepth 100000 in
theorem t_X12_text_6 (E : xE) (d : Nat) (rec : Rk) (r : Int × Hp) (hr_203 : ∀ (x2 : Int) (h : Hp), Lay h → rec 7 [x2] h = some r → X E mX12_text (d + 1010) (0, 0) (0, 0) 203 [some (xr 12 0), none, some (xi x2)] [] h (PoI r)) (h : Hp) (hL : Lay h) (hF : b_X12_text_6 rec  h = some r) : X E mX12_text (d + 1010) (0, 0) (0, 0) 169 [some (xr 12 0), none, none] [] h (PoI r) := by
  unfold b_X12_text_6 at hF
  refine x_aload_n (i := 0) (b := 170) dX12_text_169 rfl rfl rfl ?_
  refine x_aload_n (i := 0) (b := 171) dX12_text_170 rfl rfl rfl ?_
  refine x_getI (v := gI h 12 0 32) (b := 174) fk_X12_247 dX12_text_171 (by decide) rfl rfl ?_
  refine x_putI (b := 177) fk_X12_357 dX12_text_174 rfl rfl 34 rfl ?_
  obtain ⟨h1, e_h1, hF⟩ := lt_e hF
  refine x_hp (h2 := h1) e_h1 ?_
  replace hL : Lay h1 := by rw [← e_h1]; exact hL
  refine x_aload_n (i := 0) (b := 178) dX12_text_177 rfl rfl rfl ?_
  refine x_aload_n (i := 0) (b := 179) dX12_text_178 rfl rfl rfl ?_
  refine x_getI (v := gI h1 12 0 33) (b := 182) fk_X12_250 dX12_text_179 (by decide) rfl rfl ?_
  refine x_putI (b := 185) fk_X12_80 dX12_text_182 rfl rfl 35 rfl ?_
  obtain ⟨h2, e_h2, hF⟩ := lt_e hF
  refine x_hp (h2 := h2) e_h2 ?_
  replace hL : Lay h2 := by rw [← e_h2]; exact hL
  refine x_aload_n (i := 0) (b := 186) dX12_text_185 rfl rfl rfl ?_
  refine x_getI (v := gI h2 12 0 32) (b := 189) fk_X12_247 dX12_text_186 (by decide) rfl rfl ?_
  refine x_if_eq (tgt := 194) (b := 192) dX12_text_189 (by decide) rfl (fun hc => ?_) (fun hc => ?_)
  · replace hF := br_T hc hF
    refine x_aload_n (i := 0) (b := 195) dX12_text_194 rfl rfl rfl ?_
    refine x_getL (j := 0) (t := (61, 0, true)) (b := 198) fk_X12_13 dX12_text_195 rfl hL rfl rfl rfl ?_
    obtain ⟨v3, h4, hq, hF⟩ := bd_e hF
    refine x_callS (as := [xr 61 0]) (rest := []) (b := 201) (c_X12_half_r61 (d + 1008) h2 _ hL hq) dX12_text_198 cw_X12_360 rfl rfl (Nat.le_of_ble_eq_true rfl) ⟨Nat.le_refl _, Nat.le_refl _⟩ rfl (fun rv hh hp _ => ?_)
    obtain ⟨rfl, rfl, hL⟩ := hp
    refine x_iconst (n := 0) (b := 202) dX12_text_201 (by decide) rfl ?_
    refine x_istore_n (i := 2) (b := 203) (ls2 := [some (xr 12 0), none, some (xi 0)]) dX12_text_202 rfl (Nat.le_of_ble_eq_true rfl) rfl rfl ?_
    exact x_dp (ls2 := [some (xr 12 0), none, some (xi 0)]) ⟨rfl, rfl, trivial⟩ (hr_203 0 h4 hL hF)
  · replace hF := br_F hc hF
    refine x_iconst (n := (-1)) (b := 193) dX12_text_192 (by decide) rfl ?_
    refine x_ireturn dX12_text_193 rfl ⟨Nat.le_refl _, Nat.le_refl _⟩ ?_
    cases hF
    exact ⟨rfl, rfl, hL⟩
set_option maxHeartbeats 4000000 in
set_option maxRecDepth 100000 in
theorem t_X12_text_7 (E : xE) (d : Nat) (rec : Rk) (r : Int × Hp) (hr_203 : ∀ (x2 : Int) (h : Hp), Lay h → rec 7 [x2] h = some r → X E mX12_text (d + 1010) (0, 0) (0, 0) 203 [some (xr 12 0), none, some (xi x2)] [] h (PoI r)) (x2 : Int) (h : Hp) (hL : Lay h) (hF : b_X12_text_7 rec x2 h = some r) : X E mX12_text (d + 1010) (0, 0) (0, 0) 203 [some (xr 12 0), none, some (xi x2)] [] h (PoI r) := by
  unfold b_X12_text_7 at hF
  refine x_iload_n (i := 2) (b := 204) dX12_text_203 rfl rfl rfl ?_
  refine x_bipush (n := 64) (b := 206) dX12_text_204 (by decide) rfl ?_
  refine x_icmp_ge (tgt := 230) (b := 209) dX12_text_206 (by decide) rfl (fun hc => ?_) (fun hc => ?_)
  · replace hF := br_T hc hF
    refine x_aload_n (i := 0) (b := 231) dX12_text_230 rfl rfl rfl ?_
    refine x_getL (j := 0) (t := (63, 0, true)) (b := 234) fk_X12_20 dX12_text_231 rfl hL rfl rfl rfl ?_
    obtain ⟨v1, h2, hq, hF⟩ := bd_e hF
    refine x_callS (as := [xr 63 0]) (rest := []) (b := 237) (c_X12_half_r63 (d + 1008) h _ hL hq) dX12_text_234 cw_X12_360 rfl rfl (Nat.le_of_ble_eq_true rfl) ⟨Nat.le_refl _, Nat.le_refl _⟩ rfl (fun rv hh hp _ => ?_)
    obtain ⟨rfl, rfl, hL⟩ := hp
    refine x_aload_n (i := 0) (b := 238) dX12_text_237 rfl rfl rfl ?_
    refine x_getL (j := 0) (t := (64, 0, true)) (b := 241) fk_X12_23 dX12_text_238 rfl hL rfl rfl rfl ?_
    obtain ⟨v3, h4, hq, hF⟩ := bd_e hF
    refine x_callS (as := [xr 64 0]) (rest := []) (b := 244) (c_X12_half_r64 (d + 1008) h2 _ hL hq) dX12_text_241 cw_X12_360 rfl rfl (Nat.le_of_ble_eq_true rfl) ⟨Nat.le_refl _, Nat.le_refl _⟩ rfl (fun rv hh hp _ => ?_)
    obtain ⟨rfl, rfl, hL⟩ := hp
    refine x_aload_n (i := 0) (b := 245) dX12_text_244 rfl rfl rfl ?_
    refine x_getL (j := 0) (t := (65, 0, true)) (b := 248) fk_X12_26 dX12_text_245 rfl hL rfl rfl rfl ?_
    obtain ⟨v5, h6, hq, hF⟩ := bd_e hF
    refine x_callS (as := [xr 65 0]) (rest := []) (b := 251) (c_X12_half_r65 (d + 1008) h4 _ hL hq) dX12_text_248 cw_X12_360 rfl rfl (Nat.le_of_ble_eq_true rfl) ⟨Nat.le_refl _, Nat.le_refl _⟩ rfl (fun rv hh hp _ => ?_)
    obtain ⟨rfl, rfl, hL⟩ := hp
    refine x_aload_n (i := 0) (b := 252) dX12_text_251 rfl rfl rfl ?_
    refine x_getL (j := 0) (t := (66, 0, true)) (b := 255) fk_X12_29 dX12_text_252 rfl hL rfl rfl rfl ?_
    obtain ⟨v7, h8, hq, hF⟩ := bd_e hF
    refine x_callS (as := [xr 66 0]) (rest := []) (b := 258) (c_X12_half_r66 (d + 1008) h6 _ hL hq) dX12_text_255 cw_X12_360 rfl rfl (Nat.le_of_ble_eq_true rfl) ⟨Nat.le_refl _, Nat.le_refl _⟩ rfl (fun rv hh hp _ => ?_)
    obtain ⟨rfl, rfl, hL⟩ := hp
    refine x_aload_n (i := 0) (b := 259) dX12_text_258 rfl rfl rfl ?_
    refine x_getL (j := 0) (t := (67, 0, true)) (b := 262) fk_X12_32 dX12_text_259 rfl hL rfl rfl rfl ?_
    obtain ⟨v9, h10, hq, hF⟩ := bd_e hF
    refine x_callS (as := [xr 67 0]) (rest := []) (b := 265) (c_X12_half_r67 (d + 1008) h8 _ hL hq) dX12_text_262 cw_X12_360 rfl rfl (Nat.le_of_ble_eq_true rfl) ⟨Nat.le_refl _, Nat.le_refl _⟩ rfl (fun rv hh hp _ => ?_)
    obtain ⟨rfl, rfl, hL⟩ := hp
    refine x_aload_n (i := 0) (b := 266) dX12_text_265 rfl rfl rfl ?_
    refine x_getL (j := 0) (t := (68, 0, true)) (b := 269) fk_X12_35 dX12_text_266 rfl hL rfl rfl rfl ?_
    obtain ⟨v11, h12, hq, hF⟩ := bd_e hF
    refine x_callS (as := [xr 68 0]) (rest := []) (b := 272) (c_X12_half_r68 (d + 1008) h10 _ hL hq) dX12_text_269 cw_X12_360 rfl rfl (Nat.le_of_ble_eq_true rfl) ⟨Nat.le_refl _, Nat.le_refl _⟩ rfl (fun rv hh hp _ => ?_)
    obtain ⟨rfl, rfl, hL⟩ := hp
    refine x_aload_n (i := 0) (b := 273) dX12_text_272 rfl rfl rfl ?_
    refine x_getL (j := 0) (t := (69, 0, true)) (b := 276) fk_X12_38 dX12_text_273 rfl hL rfl rfl rfl ?_
    obtain ⟨v13, h14, hq, hF⟩ := bd_e hF
    refine x_callS (as := [xr 69 0]) (rest := []) (b := 279) (c_X12_half_r69 (d + 1008) h12 _ hL hq) dX12_text_276 cw_X12_360 rfl rfl (Nat.le_of_ble_eq_true rfl) ⟨Nat.le_refl _, Nat.le_refl _⟩ rfl (fun rv hh hp _ => ?_)
    obtain ⟨rfl, rfl, hL⟩ := hp
    refine x_aload_n (i := 0) (b := 280) dX12_text_279 rfl rfl rfl ?_
    refine x_getL (j := 0) (t := (70, 0, true)) (b := 283) fk_X12_41 dX12_text_280 rfl hL rfl rfl rfl ?_
    obtain ⟨v15, h16, hq, hF⟩ := bd_e hF
    refine x_callS (as := [xr 70 0]) (rest := []) (b := 286) (c_X12_half_r70 (d + 1008) h14 _ hL hq) dX12_text_283 cw_X12_360 rfl rfl (Nat.le_of_ble_eq_true rfl) ⟨Nat.le_refl _, Nat.le_refl _⟩ rfl (fun rv hh hp _ => ?_)
    obtain ⟨rfl, rfl, hL⟩ := hp
    refine x_aload_n (i := 0) (b := 287) dX12_text_286 rfl rfl rfl ?_
    refine x_getL (j := 0) (t := (71, 0, true)) (b := 290) fk_X12_44 dX12_text_287 rfl hL rfl rfl rfl ?_
    obtain ⟨v17, h18, hq, hF⟩ := bd_e hF
    refine x_callS (as := [xr 71 0]) (rest := []) (b := 293) (c_X12_half_r71 (d + 1008) h16 _ hL hq) dX12_text_290 cw_X12_360 rfl rfl (Nat.le_of_ble_eq_true rfl) ⟨Nat.le_refl _, Nat.le_refl _⟩ rfl (fun rv hh hp _ => ?_)
    obtain ⟨rfl, rfl, hL⟩ := hp
    refine x_aload_n (i := 0) (b := 294) dX12_text_293 rfl rfl rfl ?_
    refine x_getL (j := 0) (t := (72, 0, true)) (b := 297) fk_X12_47 dX12_text_294 rfl hL rfl rfl rfl ?_
    obtain ⟨v19, h20, hq, hF⟩ := bd_e hF
    refine x_callS (as := [xr 72 0]) (rest := []) (b := 300) (c_X12_half_r72 (d + 1008) h18 _ hL hq) dX12_text_297 cw_X12_360 rfl rfl (Nat.le_of_ble_eq_true rfl) ⟨Nat.le_refl _, Nat.le_refl _⟩ rfl (fun rv hh hp _ => ?_)
    obtain ⟨rfl, rfl, hL⟩ := hp
    refine x_aload_n (i := 0) (b := 301) dX12_text_300 rfl rfl rfl ?_
    refine x_getL (j := 0) (t := (73, 0, true)) (b := 304) fk_X12_50 dX12_text_301 rfl hL rfl rfl rfl ?_
    obtain ⟨v21, h22, hq, hF⟩ := bd_e hF
    refine x_callS (as := [xr 73 0]) (rest := []) (b := 307) (c_X12_half_r73 (d + 1008) h20 _ hL hq) dX12_text_304 cw_X12_360 rfl rfl (Nat.le_of_ble_eq_true rfl) ⟨Nat.le_refl _, Nat.le_refl _⟩ rfl (fun rv hh hp _ => ?_)
    obtain ⟨rfl, rfl, hL⟩ := hp
    refine x_aload_n (i := 0) (b := 308) dX12_text_307 rfl rfl rfl ?_
    refine x_getL (j := 0) (t := (74, 0, true)) (b := 311) fk_X12_53 dX12_text_308 rfl hL rfl rfl rfl ?_
    obtain ⟨v23, h24, hq, hF⟩ := bd_e hF
    refine x_callS (as := [xr 74 0]) (rest := []) (b := 314) (c_X12_half_r74 (d + 1008) h22 _ hL hq) dX12_text_311 cw_X12_360 rfl rfl (Nat.le_of_ble_eq_true rfl) ⟨Nat.le_refl _, Nat.le_refl _⟩ rfl (fun rv hh hp _ => ?_)
    obtain ⟨rfl, rfl, hL⟩ := hp
    refine x_aload_n (i := 0) (b := 315) dX12_text_314 rfl rfl rfl ?_
    refine x_getL (j := 0) (t := (75, 0, true)) (b := 318) fk_X12_56 dX12_text_315 rfl hL rfl rfl rfl ?_
    obtain ⟨v25, h26, hq, hF⟩ := bd_e hF
    refine x_callS (as := [xr 75 0]) (rest := []) (b := 321) (c_X12_half_r75 (d + 1008) h24 _ hL hq) dX12_text_318 cw_X12_360 rfl rfl (Nat.le_of_ble_eq_true rfl) ⟨Nat.le_refl _, Nat.le_refl _⟩ rfl (fun rv hh hp _ => ?_)
    obtain ⟨rfl, rfl, hL⟩ := hp
    refine x_aload_n (i := 0) (b := 322) dX12_text_321 rfl rfl rfl ?_
    refine x_getL (j := 0) (t := (76, 0, true)) (b := 325) fk_X12_59 dX12_text_322 rfl hL rfl rfl rfl ?_
    obtain ⟨v27, h28, hq, hF⟩ := bd_e hF
    refine x_callS (as := [xr 76 0]) (rest := []) (b := 328) (c_X12_half_r76 (d + 1008) h26 _ hL hq) dX12_text_325 cw_X12_360 rfl rfl (Nat.le_of_ble_eq_true rfl) ⟨Nat.le_refl _, Nat.le_refl _⟩ rfl (fun rv hh hp _ => ?_)
    obtain ⟨rfl, rfl, hL⟩ := hp
    refine x_aload_n (i := 0) (b := 329) dX12_text_328 rfl rfl rfl ?_
    refine x_getL (j := 0) (t := (77, 0, true)) (b := 332) fk_X12_62 dX12_text_329 rfl hL rfl rfl rfl ?_
    obtain ⟨v29, h30, hq, hF⟩ := bd_e hF
    refine x_callS (as := [xr 77 0]) (rest := []) (b := 335) (c_X12_half_r77 (d + 1008) h28 _ hL hq) dX12_text_332 cw_X12_360 rfl rfl (Nat.le_of_ble_eq_true rfl) ⟨Nat.le_refl _, Nat.le_refl _⟩ rfl (fun rv hh hp _ => ?_)
    obtain ⟨rfl, rfl, hL⟩ := hp
    refine x_aload_n (i := 0) (b := 336) dX12_text_335 rfl rfl rfl ?_
    refine x_getL (j := 0) (t := (78, 0, true)) (b := 339) fk_X12_65 dX12_text_336 rfl hL rfl rfl rfl ?_
    obtain ⟨v31, h32, hq, hF⟩ := bd_e hF
    refine x_callS (as := [xr 78 0]) (rest := []) (b := 342) (c_X12_half_r78 (d + 1008) h30 _ hL hq) dX12_text_339 cw_X12_360 rfl rfl (Nat.le_of_ble_eq_true rfl) ⟨Nat.le_refl _, Nat.le_refl _⟩ rfl (fun rv hh hp _ => ?_)
    obtain ⟨rfl, rfl, hL⟩ := hp
    refine x_aload_n (i := 0) (b := 343) dX12_text_342 rfl rfl rfl ?_
    refine x_getL (j := 0) (t := (79, 0, true)) (b := 346) fk_X12_68 dX12_text_343 rfl hL rfl rfl rfl ?_
    obtain ⟨v33, h34, hq, hF⟩ := bd_e hF
    refine x_callS (as := [xr 79 0]) (rest := []) (b := 349) (c_X12_half_r79 (d + 1008) h32 _ hL hq) dX12_text_346 cw_X12_360 rfl rfl (Nat.le_of_ble_eq_true rfl) ⟨Nat.le_refl _, Nat.le_refl _⟩ rfl (fun rv hh hp _ => ?_)
    obtain ⟨rfl, rfl, hL⟩ := hp
    refine x_aload_n (i := 0) (b := 350) dX12_text_349 rfl rfl rfl ?_
    refine x_getL (j := 0) (t := (80, 0, true)) (b := 353) fk_X12_71 dX12_text_350 rfl hL rfl rfl rfl ?_
    obtain ⟨v35, h36, hq, hF⟩ := bd_e hF
    refine x_callS (as := [xr 80 0]) (rest := []) (b := 356) (c_X12_half_r80 (d + 1008) h34 _ hL hq) dX12_text_353 cw_X12_360 rfl rfl (Nat.le_of_ble_eq_true rfl) ⟨Nat.le_refl _, Nat.le_refl _⟩ rfl (fun rv hh hp _ => ?_)
    obtain ⟨rfl, rfl, hL⟩ := hp
    refine x_aload_n (i := 0) (b := 357) dX12_text_356 rfl rfl rfl ?_
    refine x_getL (j := 0) (t := (81, 0, true)) (b := 360) fk_X12_74 dX12_text_357 rfl hL rfl rfl rfl ?_
    obtain ⟨v37, h38, hq, hF⟩ := bd_e hF
    refine x_callS (as := [xr 81 0]) (rest := []) (b := 363) (c_X12_half_r81 (d + 1008) h36 _ hL hq) dX12_text_360 cw_X12_360 rfl rfl (Nat.le_of_ble_eq_true rfl) ⟨Nat.le_refl _, Nat.le_refl _⟩ rfl (fun rv hh hp _ => ?_)
    obtain ⟨rfl, rfl, hL⟩ := hp
    refine x_aload_n (i := 0) (b := 364) dX12_text_363 rfl rfl rfl ?_
    refine x_getL (j := 0) (t := (82, 0, true)) (b := 367) fk_X12_77 dX12_text_364 rfl hL rfl rfl rfl ?_
    obtain ⟨v39, h40, hq, hF⟩ := bd_e hF
    refine x_callS (as := [xr 82 0]) (rest := []) (b := 370) (c_X12_half_r82 (d + 1008) h38 _ hL hq) dX12_text_367 cw_X12_360 rfl rfl (Nat.le_of_ble_eq_true rfl) ⟨Nat.le_refl _, Nat.le_refl _⟩ rfl (fun rv hh hp _ => ?_)
    obtain ⟨rfl, rfl, hL⟩ := hp
    refine x_aload_n (i := 0) (b := 371) dX12_text_370 rfl rfl rfl ?_
    refine x_iconst (n := 0) (b := 372) dX12_text_371 (by decide) rfl ?_
    refine x_putI (b := 375) fk_X12_364 dX12_text_372 rfl rfl 74 rfl ?_
    obtain ⟨h41, e_h41, hF⟩ := lt_e hF
    refine x_hp (h2 := h41) e_h41 ?_
    replace hL : Lay h41 := by rw [← e_h41]; exact hL
    refine x_aload_n (i := 0) (b := 376) dX12_text_375 rfl rfl rfl ?_
    refine x_iconst (n := (-1)) (b := 377) dX12_text_376 (by decide) rfl ?_
    refine x_putI (b := 380) fk_X12_172 dX12_text_377 rfl rfl 75 rfl ?_
    obtain ⟨h42, e_h42, hF⟩ := lt_e hF
    refine x_hp (h2 := h42) e_h42 ?_
    replace hL : Lay h42 := by rw [← e_h42]; exact hL
    refine x_aload_n (i := 0) (b := 381) dX12_text_380 rfl rfl rfl ?_
    refine x_iconst (n := 0) (b := 382) dX12_text_381 (by decide) rfl ?_
    refine x_putZ (b := 385) fk_X12_367 dX12_text_382 rfl (by decide) rfl 53 rfl ?_
    obtain ⟨h43, e_h43, hF⟩ := lt_e hF
    refine x_hp (h2 := h43) e_h43 ?_
    replace hL : Lay h43 := by rw [← e_h43]; exact hL
    refine x_aload_n (i := 0) (b := 386) dX12_text_385 rfl rfl rfl ?_
    refine x_iconst (n := 0) (b := 387) dX12_text_386 (by decide) rfl ?_
    refine x_putI (b := 390) fk_X12_371 dX12_text_387 rfl rfl 54 rfl ?_
    obtain ⟨h44, e_h44, hF⟩ := lt_e hF
    refine x_hp (h2 := h44) e_h44 ?_
    replace hL : Lay h44 := by rw [← e_h44]; exact hL
    refine x_aload_n (i := 0) (b := 391) dX12_text_390 rfl rfl rfl ?_
    obtain ⟨v45, h46, hq, hF⟩ := bd_e hF
    refine x_callV (as := []) (rest := []) (b := 394) (c_X12_layFar (d + 1007) h44 _ hL hq) dX12_text_391 cw_X12_187 ⟨_, _, rfl, Nat.le_of_ble_eq_true rfl⟩ rfl rfl (Nat.le_of_ble_eq_true rfl) ⟨Nat.le_refl _, Nat.le_refl _⟩ rfl (fun rv hh hp _ => ?_)
    obtain ⟨rfl, rfl, hL⟩ := hp
    refine x_aload_n (i := 0) (b := 395) dX12_text_394 rfl rfl rfl ?_
    refine x_iconst (n := 0) (b := 396) dX12_text_395 (by decide) rfl ?_
    obtain ⟨v47, h48, hq, hF⟩ := bd_e hF
    refine x_callV (as := [xi 0]) (rest := []) (b := 399) (c_X12_begins (d + 1008) 0 h46 _ hL hq) dX12_text_396 cw_X12_190 ⟨_, _, rfl, Nat.le_of_ble_eq_true rfl⟩ rfl rfl (Nat.le_of_ble_eq_true rfl) ⟨Nat.le_refl _, Nat.le_refl _⟩ rfl (fun rv hh hp _ => ?_)
    obtain ⟨rfl, rfl, hL⟩ := hp
    refine x_aload_n (i := 0) (b := 400) dX12_text_399 rfl rfl rfl ?_
    refine x_getI (v := gI h48 12 0 26) (b := 403) fk_X12_311 dX12_text_400 (by decide) rfl rfl ?_
    refine x_ireturn dX12_text_403 rfl ⟨Nat.le_refl _, Nat.le_refl _⟩ ?_
    cases hF
    exact ⟨rfl, rfl, hL⟩
  · replace hF := br_F hc hF
    refine x_aload_n (i := 0) (b := 210) dX12_text_209 rfl rfl rfl ?_
    refine x_getL (j := 0) (t := (62, 0, true)) (b := 213) fk_X12_16 dX12_text_210 rfl hL rfl rfl rfl ?_
    refine x_iload_n (i := 2) (b := 214) dX12_text_213 rfl rfl rfl ?_
    refine x_aload_n (i := 0) (b := 215) dX12_text_214 rfl rfl rfl ?_
    refine x_getL (j := 0) (t := (62, 0, true)) (b := 218) fk_X12_16 dX12_text_215 rfl hL rfl rfl rfl ?_
    refine x_bipush (n := 64) (b := 220) dX12_text_218 (by decide) rfl ?_
    refine x_iload_n (i := 2) (b := 221) dX12_text_220 rfl rfl rfl ?_
    obtain ⟨hs, hF⟩ := ck_e hF
    refine x_iadd (b := 222) dX12_text_221 hs rfl ?_
    obtain ⟨hs, hF⟩ := ck_e hF
    refine x_zald (v := gI h 62 0 (64 + x2)) (b := 223) ak_62 dX12_text_222 hs rfl rfl ?_
    obtain ⟨hs, hF⟩ := ck_e hF
    have hs1 := hs
    obtain ⟨hs, hF⟩ := ck_e hF
    refine x_zast (b := 224) ak_62 dX12_text_223 hs1 hs rfl ?_
    obtain ⟨h49, e_h49, hF⟩ := lt_e hF
    refine x_hp (h2 := h49) e_h49 ?_
    replace hL : Lay h49 := by rw [← e_h49]; exact hL
    obtain ⟨hs, hF⟩ := ck_e hF
    refine x_iinc (i := 2) (b := 227) (ls2 := [some (xr 12 0), none, some (xi (x2 + 1))]) dX12_text_224 rfl (Nat.le_of_ble_eq_true rfl) hs rfl rfl ?_
    refine x_goto (tgt := 203) dX12_text_227 (by decide) ?_
    exact x_dp (ls2 := [some (xr 12 0), none, some (xi (x2 + 1))]) ⟨rfl, rfl, trivial⟩ (hr_203 (x2 + 1) h49 hL hF)
set_option maxHeartbeats 4000000 in
set_option maxRecDepth 100000 in
theorem u_X12_text (E : xE) (d : Nat) (r : Int × Hp) : ∀ n : Nat, (∀ (x1 : Int) (h : Hp), Lay h → g_X12_text n 0 [x1] h = some r → X E mX12_text (d + 1010) (0, 0) (0, 0) 0 [some (xr 12 0), some (xi x1), none] [] h (PoI r)) ∧ (∀ (x2 : Int) (h : Hp), Lay h → g_X12_text n 1 [x2] h = some r → X E mX12_text (d + 1010) (0, 0) (0, 0) 47 [some (xr 12 0), none, some (xi x2)] [] h (PoI r)) ∧ (∀ (x2 y0 : Int) (h : Hp), Lay h → g_X12_text n 2 [x2, y0] h = some r → X E mX12_text (d + 1010) (0, 0) (0, 0) 64 [some (xr 12 0), none, some (xi x2)] [xi y0, xr 12 0] h (PoI r)) ∧ (∀ (x2 y0 y1 : Int) (h : Hp), Lay h → g_X12_text n 3 [x2, y0, y1] h = some r → X E mX12_text (d + 1010) (0, 0) (0, 0) 90 [some (xr 12 0), none, some (xi x2)] [xi y0, xi y1, xr 12 0] h (PoI r)) ∧ (∀ (x2 : Int) (h : Hp), Lay h → g_X12_text n 4 [x2] h = some r → X E mX12_text (d + 1010) (0, 0) (0, 0) 101 [some (xr 12 0), none, some (xi x2)] [] h (PoI r)) ∧ (∀ (h : Hp), Lay h → g_X12_text n 5 [] h = some r → X E mX12_text (d + 1010) (0, 0) (0, 0) 147 [some (xr 12 0), none, none] [] h (PoI r)) ∧ (∀ (h : Hp), Lay h → g_X12_text n 6 [] h = some r → X E mX12_text (d + 1010) (0, 0) (0, 0) 169 [some (xr 12 0), none, none] [] h (PoI r)) ∧ (∀ (x2 : Int) (h : Hp), Lay h → g_X12_text n 7 [x2] h = some r → X E mX12_text (d + 1010) (0, 0) (0, 0) 203 [some (xr 12 0), none, some (xi x2)] [] h (PoI r)) := by
  intro n
  induction n with
  | zero => exact ⟨fun _ _ _ hF => no_e (r := r) hF, fun _ _ _ hF => no_e (r := r) hF, fun _ _ _ _ hF => no_e (r := r) hF, fun _ _ _ _ _ hF => no_e (r := r) hF, fun _ _ _ hF => no_e (r := r) hF, fun _ _ hF => no_e (r := r) hF, fun _ _ hF => no_e (r := r) hF, fun _ _ _ hF => no_e (r := r) hF⟩
  | succ n ih => exact ⟨fun x1 h hL hF => t_X12_text_0 E d (g_X12_text n) r ih.2.1 x1 h hL hF, fun x2 h hL hF => t_X12_text_1 E d (g_X12_text n) r ih.2.2.1 ih.2.2.2.1 ih.2.2.2.2.1 x2 h hL hF, fun x2 y0 h hL hF => t_X12_text_2 E d (g_X12_text n) r ih.2.2.2.1 x2 y0 h hL hF, fun x2 y0 y1 h hL hF => t_X12_text_3 E d (g_X12_text n) r ih.2.1 x2 y0 y1 h hL hF, fun x2 h hL hF => t_X12_text_4 E d (g_X12_text n) r ih.2.2.2.2.1 ih.2.2.2.2.2.1 x2 h hL hF, fun h hL hF => t_X12_text_5 E d (g_X12_text n) r ih.2.2.2.2.2.1 ih.2.2.2.2.2.2.1  h hL hF, fun h hL hF => t_X12_text_6 E d (g_X12_text n) r ih.2.2.2.2.2.2.2  h hL hF, fun x2 h hL hF => t_X12_text_7 E d (g_X12_text n) r ih.2.2.2.2.2.2.2 x2 h hL hF⟩
theorem c_X12_text (d : Nat) (x1 : Int) (h : Hp) (r : Int × Hp) (hL : Lay h) (hF : f_X12_text x1 h = some r) : Sp mX12_text (d + 1010) (0, 0) [xr 12 0, xi x1] h (PoI r) :=
  sp_of (by decide) rfl (Nat.le_of_ble_eq_true rfl) (ls := [some (xr 12 0), some (xi x1), none]) rfl (fun E _ => (u_X12_text E d r FU).1 x1 h hL hF)
