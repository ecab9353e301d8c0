theorem dX12_known_0 : decode cX12_known 0 = .ok (.aload_n 0, 1) := by decide +kernel
theorem dX12_known_1 : decode cX12_known 1 = .ok (.iconst 0, 1) := by decide +kernel
theorem dX12_known_2 : decode cX12_known 2 = .ok (.putfield 194, 3) := by decide +kernel
theorem dX12_known_5 : decode cX12_known 5 = .ok (.iload_n 1, 1) := by decide +kernel
theorem dX12_known_6 : decode cX12_known 6 = .ok (.iconst (-1), 1) := by decide +kernel
theorem dX12_known_7 : decode cX12_known 7 = .ok (.if_icmp .lt 11, 3) := by decide +kernel
theorem dX12_known_10 : decode cX12_known 10 = .ok (.iload_n 1, 1) := by decide +kernel
theorem dX12_known_11 : decode cX12_known 11 = .ok (.aload_n 0, 1) := by decide +kernel
theorem dX12_known_12 : decode cX12_known 12 = .ok (.getfield 364, 3) := by decide +kernel
theorem dX12_known_15 : decode cX12_known 15 = .ok (.if_icmp .le 5, 3) := by decide +kernel
theorem dX12_known_18 : decode cX12_known 18 = .ok (.iconst 0, 1) := by decide +kernel
theorem dX12_known_19 : decode cX12_known 19 = .ok (.ireturn, 1) := by decide +kernel
theorem dX12_known_20 : decode cX12_known 20 = .ok (.aload_n 0, 1) := by decide +kernel
theorem dX12_known_21 : decode cX12_known 21 = .ok (.iload_n 1, 1) := by decide +kernel
theorem dX12_known_22 : decode cX12_known 22 = .ok (.putfield 172, 3) := by decide +kernel
theorem dX12_known_25 : decode cX12_known 25 = .ok (.iconst 1, 1) := by decide +kernel
theorem dX12_known_26 : decode cX12_known 26 = .ok (.ireturn, 1) := by decide +kernel
noncomputable def b_X12_known_0 (rec : Rk) (x1 : Int) (h : Hp) : Option (Int × Hp) :=
  lt (sI h 12 0 0 0) fun h1 =>
  if x1 < (-1) then (
    some (0, h1)
  ) else (
    if x1 ≤ (gI h1 12 0 74) then (
      lt (sI h1 12 0 75 x1) fun h2 =>
      some (1, h2)
    ) else (
      some (0, h1)
    )
  )
noncomputable def g_X12_known (n : Nat) : Rk := Nat.rec (motive := fun _ => Rk) (fun _ _ _ => none) (fun _ rec k l h => if k = 0 then b_X12_known_0 rec (l.getD 0 0) h else none) n
noncomputable def f_X12_known (x1 : Int) (h : Hp) : Option (Int × Hp) := g_X12_known FU 0 [x1] h
set_option maxHeartbeats 4000000 in
set_option maxRecDepth 100000 in
theorem t_X12_known_0 (E : xE) (d : Nat) (rec : Rk) (r : Int × Hp) (x1 : Int) (h : Hp) (hL : Lay h) (hF : b_X12_known_0 rec x1 h = some r) : X E mX12_known (d + 1) (0, 0) (0, 0) 0 [some (xr 12 0), some (xi x1)] [] h (PoI r) := by
  unfold b_X12_known_0 at hF
  refine x_aload_n (i := 0) (b := 1) dX12_known_0 rfl rfl rfl ?_
  refine x_iconst (n := 0) (b := 2) dX12_known_1 (by decide) rfl ?_
  refine x_putI (b := 5) fk_X12_194 dX12_known_2 rfl rfl 0 rfl ?_
  obtain ⟨h1, e_h1, hF⟩ := lt_e hF
  refine x_hp (h2 := h1) e_h1 ?_
  replace hL : Lay h1 := by rw [← e_h1]; exact hL
  refine x_iload_n (i := 1) (b := 6) dX12_known_5 rfl rfl rfl ?_
  refine x_iconst (n := (-1)) (b := 7) dX12_known_6 (by decide) rfl ?_
  refine x_icmp_lt (tgt := 18) (b := 10) dX12_known_7 (by decide) rfl (fun hc => ?_) (fun hc => ?_)
  · replace hF := br_T hc hF
    refine x_iconst (n := 0) (b := 19) dX12_known_18 (by decide) rfl ?_
    refine x_zreturn dX12_known_19 rfl ⟨Nat.le_refl _, Nat.le_refl _⟩ (by decide) ?_
    cases hF
    exact ⟨rfl, rfl, hL⟩
  · replace hF := br_F hc hF
    refine x_iload_n (i := 1) (b := 11) dX12_known_10 rfl rfl rfl ?_
    refine x_aload_n (i := 0) (b := 12) dX12_known_11 rfl rfl rfl ?_
    refine x_getI (v := gI h1 12 0 74) (b := 15) fk_X12_364 dX12_known_12 (by decide) rfl rfl ?_
    refine x_icmp_le (tgt := 20) (b := 18) dX12_known_15 (by decide) rfl (fun hc => ?_) (fun hc => ?_)
    · replace hF := br_T hc hF
      refine x_aload_n (i := 0) (b := 21) dX12_known_20 rfl rfl rfl ?_
      refine x_iload_n (i := 1) (b := 22) dX12_known_21 rfl rfl rfl ?_
      refine x_putI (b := 25) fk_X12_172 dX12_known_22 rfl rfl 75 rfl ?_
      obtain ⟨h2, e_h2, hF⟩ := lt_e hF
      refine x_hp (h2 := h2) e_h2 ?_
      replace hL : Lay h2 := by rw [← e_h2]; exact hL
      refine x_iconst (n := 1) (b := 26) dX12_known_25 (by decide) rfl ?_
      refine x_zreturn dX12_known_26 rfl ⟨Nat.le_refl _, Nat.le_refl _⟩ (by decide) ?_
      cases hF
      exact ⟨rfl, rfl, hL⟩
    · replace hF := br_F hc hF
      refine x_iconst (n := 0) (b := 19) dX12_known_18 (by decide) rfl ?_
      refine x_zreturn dX12_known_19 rfl ⟨Nat.le_refl _, Nat.le_refl _⟩ (by decide) ?_
      cases hF
      exact ⟨rfl, rfl, hL⟩
set_option maxHeartbeats 4000000 in
set_option maxRecDepth 100000 in
theorem u_X12_known (E : xE) (d : Nat) (r : Int × Hp) : ∀ n : Nat, (∀ (x1 : Int) (h : Hp), Lay h → g_X12_known n 0 [x1] h = some r → X E mX12_known (d + 1) (0, 0) (0, 0) 0 [some (xr 12 0), some (xi x1)] [] h (PoI r)) := by
  intro n
  induction n with
  | zero => exact fun _ _ _ hF => no_e (r := r) hF
  | succ n ih => exact fun x1 h hL hF => t_X12_known_0 E d (g_X12_known n) r  x1 h hL hF
theorem c_X12_known (d : Nat) (x1 : Int) (h : Hp) (r : Int × Hp) (hL : Lay h) (hF : f_X12_known x1 h = some r) : Sp mX12_known (d + 1) (0, 0) [xr 12 0, xi x1] h (PoI r) :=
  sp_of (by decide) rfl (Nat.le_of_ble_eq_true rfl) (ls := [some (xr 12 0), some (xi x1)]) rfl (fun E _ => (u_X12_known E d r FU) x1 h hL hF)
theorem dX12_knownMany_0 : decode cX12_knownMany 0 = .ok (.aload_n 0, 1) := by decide +kernel
theorem dX12_knownMany_1 : decode cX12_knownMany 1 = .ok (.getfield 172, 3) := by decide +kernel
theorem dX12_knownMany_4 : decode cX12_knownMany 4 = .ok (.iconst (-1), 1) := by decide +kernel
theorem dX12_knownMany_5 : decode cX12_knownMany 5 = .ok (.if_icmp .ne 10, 3) := by decide +kernel
theorem dX12_knownMany_8 : decode cX12_knownMany 8 = .ok (.aload_n 0, 1) := by decide +kernel
theorem dX12_knownMany_9 : decode cX12_knownMany 9 = .ok (.getfield 364, 3) := by decide +kernel
theorem dX12_knownMany_12 : decode cX12_knownMany 12 = .ok (.goto 7, 3) := by decide +kernel
theorem dX12_knownMany_15 : decode cX12_knownMany 15 = .ok (.aload_n 0, 1) := by decide +kernel
theorem dX12_knownMany_16 : decode cX12_knownMany 16 = .ok (.getfield 172, 3) := by decide +kernel
theorem dX12_knownMany_19 : decode cX12_knownMany 19 = .ok (.ireturn, 1) := by decide +kernel
noncomputable def b_X12_knownMany_0 (rec : Rk) (h : Hp) : Option (Int × Hp) :=
  if (gI h 12 0 75) = (-1) then (
    some (gI h 12 0 74, h)
  ) else (
    some (gI h 12 0 75, h)
  )
noncomputable def g_X12_knownMany (n : Nat) : Rk := Nat.rec (motive := fun _ => Rk) (fun _ _ _ => none) (fun _ rec k l h => if k = 0 then b_X12_knownMany_0 rec  h else none) n
noncomputable def f_X12_knownMany (h : Hp) : Option (Int × Hp) := g_X12_knownMany FU 0 [] h
set_option maxHeartbeats 4000000 in
set_option maxRecDepth 100000 in
theorem t_X12_knownMany_0 (E : xE) (d : Nat) (rec : Rk) (r : Int × Hp) (h : Hp) (hL : Lay h) (hF : b_X12_knownMany_0 rec  h = some r) : X E mX12_knownMany (d + 1) (0, 0) (0, 0) 0 [some (xr 12 0)] [] h (PoI r) := by
  unfold b_X12_knownMany_0 at hF
  refine x_aload_n (i := 0) (b := 1) dX12_knownMany_0 rfl rfl rfl ?_
  refine x_getI (v := gI h 12 0 75) (b := 4) fk_X12_172 dX12_knownMany_1 (by decide) rfl rfl ?_
  refine x_iconst (n := (-1)) (b := 5) dX12_knownMany_4 (by decide) rfl ?_
  refine x_icmp_ne (tgt := 15) (b := 8) dX12_knownMany_5 (by decide) rfl (fun hc => ?_) (fun hc => ?_)
  · replace hF := br_F hc hF
    refine x_aload_n (i := 0) (b := 16) dX12_knownMany_15 rfl rfl rfl ?_
    refine x_getI (v := gI h 12 0 75) (b := 19) fk_X12_172 dX12_knownMany_16 (by decide) rfl rfl ?_
    refine x_ireturn dX12_knownMany_19 rfl ⟨Nat.le_refl _, Nat.le_refl _⟩ ?_
    cases hF
    exact ⟨rfl, rfl, hL⟩
  · replace hF := br_T hc hF
    refine x_aload_n (i := 0) (b := 9) dX12_knownMany_8 rfl rfl rfl ?_
    refine x_getI (v := gI h 12 0 74) (b := 12) fk_X12_364 dX12_knownMany_9 (by decide) rfl rfl ?_
    refine x_goto (tgt := 19) dX12_knownMany_12 (by decide) ?_
    refine x_ireturn dX12_knownMany_19 rfl ⟨Nat.le_refl _, Nat.le_refl _⟩ ?_
    cases hF
    exact ⟨rfl, rfl, hL⟩
set_option maxHeartbeats 4000000 in
set_option maxRecDepth 100000 in
theorem u_X12_knownMany (E : xE) (d : Nat) (r : Int × Hp) : ∀ n : Nat, (∀ (h : Hp), Lay h → g_X12_knownMany n 0 [] h = some r → X E mX12_knownMany (d + 1) (0, 0) (0, 0) 0 [some (xr 12 0)] [] h (PoI r)) := by
  intro n
  induction n with
  | zero => exact fun _ _ hF => no_e (r := r) hF
  | succ n ih => exact fun h hL hF => t_X12_knownMany_0 E d (g_X12_knownMany n) r   h hL hF
theorem c_X12_knownMany (d : Nat) (h : Hp) (r : Int × Hp) (hL : Lay h) (hF : f_X12_knownMany  h = some r) : Sp mX12_knownMany (d + 1) (0, 0) [xr 12 0] h (PoI r) :=
  sp_of (by decide) rfl (Nat.le_of_ble_eq_true rfl) (ls := [some (xr 12 0)]) rfl (fun E _ => (u_X12_knownMany E d r FU)  h hL hF)
theorem dX12_land_0 : decode cX12_land 0 = .ok (.aload_n 0, 1) := by decide +kernel
theorem dX12_land_1 : decode cX12_land 1 = .ok (.iconst 0, 1) := by decide +kernel
theorem dX12_land_2 : decode cX12_land 2 = .ok (.putfield 194, 3) := by decide +kernel
theorem dX12_land_5 : decode cX12_land 5 = .ok (.aload_n 0, 1) := by decide +kernel
theorem dX12_land_6 : decode cX12_land 6 = .ok (.iload_n 1, 1) := by decide +kernel
theorem dX12_land_7 : decode cX12_land 7 = .ok (.invokevirtual 380, 3) := by decide +kernel
theorem dX12_land_10 : decode cX12_land 10 = .ok (.ifCond .ne 7, 3) := by decide +kernel
theorem dX12_land_13 : decode cX12_land 13 = .ok (.iconst (-1), 1) := by decide +kernel
theorem dX12_land_14 : decode cX12_land 14 = .ok (.goto 17, 3) := by decide +kernel
theorem dX12_land_17 : decode cX12_land 17 = .ok (.aload_n 0, 1) := by decide +kernel
theorem dX12_land_18 : decode cX12_land 18 = .ok (.getfield 16, 3) := by decide +kernel
theorem dX12_land_21 : decode cX12_land 21 = .ok (.iload_n 1, 1) := by decide +kernel
theorem dX12_land_22 : decode cX12_land 22 = .ok (.baload, 1) := by decide +kernel
theorem dX12_land_23 : decode cX12_land 23 = .ok (.ifCond .eq 7, 3) := by decide +kernel
theorem dX12_land_26 : decode cX12_land 26 = .ok (.iconst 1, 1) := by decide +kernel
theorem dX12_land_27 : decode cX12_land 27 = .ok (.goto 4, 3) := by decide +kernel
theorem dX12_land_30 : decode cX12_land 30 = .ok (.iconst 0, 1) := by decide +kernel
theorem dX12_land_31 : decode cX12_land 31 = .ok (.ireturn, 1) := by decide +kernel
noncomputable def b_X12_land_0 (rec : Rk) (x1 : Int) (h : Hp) : Option (Int × Hp) :=
  lt (sI h 12 0 0 0) fun h1 =>
  bd (f_X12_isCell x1 h1) fun v2 h3 =>
  if v2 = 0 then (
    some ((-1), h3)
  ) else (
    ck (0 ≤ x1 ∧ x1 < 128) <|
    if (gI h3 62 0 x1) = 0 then (
      some (0, h3)
    ) else (
      some (1, h3)
    )
  )
noncomputable def g_X12_land (n : Nat) : Rk := Nat.rec (motive := fun _ => Rk) (fun _ _ _ => none) (fun _ rec k l h => if k = 0 then b_X12_land_0 rec (l.getD 0 0) h else none) n
noncomputable def f_X12_land (x1 : Int) (h : Hp) : Option (Int × Hp) := g_X12_land FU 0 [x1] h
set_option maxHeartbeats 4000000 in
set_option maxRecDepth 100000 in
theorem t_X12_land_0 (E : xE) (d : Nat) (rec : Rk) (r : Int × Hp) (x1 : Int) (h : Hp) (hL : Lay h) (hF : b_X12_land_0 rec x1 h = some r) : X E mX12_land (d + 3) (0, 0) (0, 0) 0 [some (xr 12 0), some (xi x1)] [] h (PoI r) := by
  unfold b_X12_land_0 at hF
  refine x_aload_n (i := 0) (b := 1) dX12_land_0 rfl rfl rfl ?_
  refine x_iconst (n := 0) (b := 2) dX12_land_1 (by decide) rfl ?_
  refine x_putI (b := 5) fk_X12_194 dX12_land_2 rfl rfl 0 rfl ?_
  obtain ⟨h1, e_h1, hF⟩ := lt_e hF
  refine x_hp (h2 := h1) e_h1 ?_
  replace hL : Lay h1 := by rw [← e_h1]; exact hL
  refine x_aload_n (i := 0) (b := 6) dX12_land_5 rfl rfl rfl ?_
  refine x_iload_n (i := 1) (b := 7) dX12_land_6 rfl rfl rfl ?_
  obtain ⟨v2, h3, hq, hF⟩ := bd_e hF
  refine x_callV (as := [xi x1]) (rest := []) (b := 10) (c_X12_isCell d x1 h1 _ hL hq) dX12_land_7 cw_X12_380 ⟨_, _, rfl, Nat.le_of_ble_eq_true rfl⟩ rfl rfl (Nat.le_of_ble_eq_true rfl) ⟨Nat.le_refl _, Nat.le_refl _⟩ rfl (fun rv hh hp _ => ?_)
  obtain ⟨rfl, rfl, hL⟩ := hp
  refine x_if_ne (tgt := 17) (b := 13) dX12_land_10 (by decide) rfl (fun hc => ?_) (fun hc => ?_)
  · replace hF := br_F hc hF
    refine x_aload_n (i := 0) (b := 18) dX12_land_17 rfl rfl rfl ?_
    refine x_getL (j := 0) (t := (62, 0, true)) (b := 21) fk_X12_16 dX12_land_18 rfl hL rfl rfl rfl ?_
    refine x_iload_n (i := 1) (b := 22) dX12_land_21 rfl rfl rfl ?_
    obtain ⟨hs, hF⟩ := ck_e hF
    refine x_zald (v := gI h3 62 0 x1) (b := 23) ak_62 dX12_land_22 hs rfl rfl ?_
    refine x_if_eq (tgt := 30) (b := 26) dX12_land_23 (by decide) rfl (fun hc => ?_) (fun hc => ?_)
    · replace hF := br_T hc hF
      refine x_iconst (n := 0) (b := 31) dX12_land_30 (by decide) rfl ?_
      refine x_ireturn dX12_land_31 rfl ⟨Nat.le_refl _, Nat.le_refl _⟩ ?_
      cases hF
      exact ⟨rfl, rfl, hL⟩
    · replace hF := br_F hc hF
      refine x_iconst (n := 1) (b := 27) dX12_land_26 (by decide) rfl ?_
      refine x_goto (tgt := 31) dX12_land_27 (by decide) ?_
      refine x_ireturn dX12_land_31 rfl ⟨Nat.le_refl _, Nat.le_refl _⟩ ?_
      cases hF
      exact ⟨rfl, rfl, hL⟩
  · replace hF := br_T hc hF
    refine x_iconst (n := (-1)) (b := 14) dX12_land_13 (by decide) rfl ?_
    refine x_goto (tgt := 31) dX12_land_14 (by decide) ?_
    refine x_ireturn dX12_land_31 rfl ⟨Nat.le_refl _, Nat.le_refl _⟩ ?_
    cases hF
    exact ⟨rfl, rfl, hL⟩
set_option maxHeartbeats 4000000 in
set_option maxRecDepth 100000 in
theorem u_X12_land (E : xE) (d : Nat) (r : Int × Hp) : ∀ n : Nat, (∀ (x1 : Int) (h : Hp), Lay h → g_X12_land n 0 [x1] h = some r → X E mX12_land (d + 3) (0, 0) (0, 0) 0 [some (xr 12 0), some (xi x1)] [] h (PoI r)) := by
  intro n
  induction n with
  | zero => exact fun _ _ _ hF => no_e (r := r) hF
  | succ n ih => exact fun x1 h hL hF => t_X12_land_0 E d (g_X12_land n) r  x1 h hL hF
theorem c_X12_land (d : Nat) (x1 : Int) (h : Hp) (r : Int × Hp) (hL : Lay h) (hF : f_X12_land x1 h = some r) : Sp mX12_land (d + 3) (0, 0) [xr 12 0, xi x1] h (PoI r) :=
  sp_of (by decide) rfl (Nat.le_of_ble_eq_true rfl) (ls := [some (xr 12 0), some (xi x1)]) rfl (fun E _ => (u_X12_land E d r FU) x1 h hL hF)
theorem dX12_leads_0 : decode cX12_leads 0 = .ok (.iload_n 1, 1) := by decide +kernel
theorem dX12_leads_1 : decode cX12_leads 1 = .ok (.aload_n 0, 1) := by decide +kernel
theorem dX12_leads_2 : decode cX12_leads 2 = .ok (.getfield 13, 3) := by decide +kernel
theorem dX12_leads_5 : decode cX12_leads 5 = .ok (.iconst 0, 1) := by decide +kernel
theorem dX12_leads_6 : decode cX12_leads 6 = .ok (.iaload, 1) := by decide +kernel
theorem dX12_leads_7 : decode cX12_leads 7 = .ok (.irem, 1) := by decide +kernel
theorem dX12_leads_8 : decode cX12_leads 8 = .ok (.iload_n 2, 1) := by decide +kernel
theorem dX12_leads_9 : decode cX12_leads 9 = .ok (.iconst 1, 1) := by decide +kernel
theorem dX12_leads_10 : decode cX12_leads 10 = .ok (.if_icmp .ne 7, 3) := by decide +kernel
theorem dX12_leads_13 : decode cX12_leads 13 = .ok (.iconst 1, 1) := by decide +kernel
theorem dX12_leads_14 : decode cX12_leads 14 = .ok (.goto 13, 3) := by decide +kernel
theorem dX12_leads_17 : decode cX12_leads 17 = .ok (.iload_n 2, 1) := by decide +kernel
theorem dX12_leads_18 : decode cX12_leads 18 = .ok (.iconst 3, 1) := by decide +kernel
theorem dX12_leads_19 : decode cX12_leads 19 = .ok (.if_icmp .ne 7, 3) := by decide +kernel
theorem dX12_leads_22 : decode cX12_leads 22 = .ok (.iconst (-1), 1) := by decide +kernel
theorem dX12_leads_23 : decode cX12_leads 23 = .ok (.goto 4, 3) := by decide +kernel
theorem dX12_leads_26 : decode cX12_leads 26 = .ok (.iconst 0, 1) := by decide +kernel
theorem dX12_leads_27 : decode cX12_leads 27 = .ok (.iadd, 1) := by decide +kernel
theorem dX12_leads_28 : decode cX12_leads 28 = .ok (.istore_n 3, 1) := by decide +kernel
theorem dX12_leads_29 : decode cX12_leads 29 = .ok (.iload_n 1, 1) := by decide +kernel
theorem dX12_leads_30 : decode cX12_leads 30 = .ok (.aload_n 0, 1) := by decide +kernel
theorem dX12_leads_31 : decode cX12_leads 31 = .ok (.getfield 13, 3) := by decide +kernel
theorem dX12_leads_34 : decode cX12_leads 34 = .ok (.iconst 0, 1) := by decide +kernel
theorem dX12_leads_35 : decode cX12_leads 35 = .ok (.iaload, 1) := by decide +kernel
theorem dX12_leads_36 : decode cX12_leads 36 = .ok (.idiv, 1) := by decide +kernel
theorem dX12_leads_37 : decode cX12_leads 37 = .ok (.iload_n 2, 1) := by decide +kernel
theorem dX12_leads_38 : decode cX12_leads 38 = .ok (.iconst 2, 1) := by decide +kernel
theorem dX12_leads_39 : decode cX12_leads 39 = .ok (.if_icmp .ne 7, 3) := by decide +kernel
theorem dX12_leads_42 : decode cX12_leads 42 = .ok (.iconst 1, 1) := by decide +kernel
theorem dX12_leads_43 : decode cX12_leads 43 = .ok (.goto 12, 3) := by decide +kernel
theorem dX12_leads_46 : decode cX12_leads 46 = .ok (.iload_n 2, 1) := by decide +kernel
theorem dX12_leads_47 : decode cX12_leads 47 = .ok (.ifCond .ne 7, 3) := by decide +kernel
theorem dX12_leads_50 : decode cX12_leads 50 = .ok (.iconst (-1), 1) := by decide +kernel
theorem dX12_leads_51 : decode cX12_leads 51 = .ok (.goto 4, 3) := by decide +kernel
theorem dX12_leads_54 : decode cX12_leads 54 = .ok (.iconst 0, 1) := by decide +kernel
theorem dX12_leads_55 : decode cX12_leads 55 = .ok (.iadd, 1) := by decide +kernel
theorem dX12_leads_56 : decode cX12_leads 56 = .ok (.istore 4, 2) := by decide +kernel
theorem dX12_leads_58 : decode cX12_leads 58 = .ok (.iload_n 3, 1) := by decide +kernel
theorem dX12_leads_59 : decode cX12_leads 59 = .ok (.ifCond .lt 29, 3) := by decide +kernel
theorem dX12_leads_62 : decode cX12_leads 62 = .ok (.iload 4, 2) := by decide +kernel
theorem dX12_leads_64 : decode cX12_leads 64 = .ok (.ifCond .lt 24, 3) := by decide +kernel
theorem dX12_leads_67 : decode cX12_leads 67 = .ok (.iload_n 3, 1) := by decide +kernel
theorem dX12_leads_68 : decode cX12_leads 68 = .ok (.aload_n 0, 1) := by decide +kernel
theorem dX12_leads_69 : decode cX12_leads 69 = .ok (.getfield 13, 3) := by decide +kernel
theorem dX12_leads_72 : decode cX12_leads 72 = .ok (.iconst 0, 1) := by decide +kernel
theorem dX12_leads_73 : decode cX12_leads 73 = .ok (.iaload, 1) := by decide +kernel
theorem dX12_leads_74 : decode cX12_leads 74 = .ok (.if_icmp .ge 14, 3) := by decide +kernel
theorem dX12_leads_77 : decode cX12_leads 77 = .ok (.iload 4, 2) := by decide +kernel
theorem dX12_leads_79 : decode cX12_leads 79 = .ok (.aload_n 0, 1) := by decide +kernel
theorem dX12_leads_80 : decode cX12_leads 80 = .ok (.getfield 13, 3) := by decide +kernel
theorem dX12_leads_83 : decode cX12_leads 83 = .ok (.iconst 1, 1) := by decide +kernel
theorem dX12_leads_84 : decode cX12_leads 84 = .ok (.iaload, 1) := by decide +kernel
theorem dX12_leads_85 : decode cX12_leads 85 = .ok (.if_icmp .lt 7, 3) := by decide +kernel
theorem dX12_leads_88 : decode cX12_leads 88 = .ok (.iconst (-1), 1) := by decide +kernel
theorem dX12_leads_89 : decode cX12_leads 89 = .ok (.goto 14, 3) := by decide +kernel
theorem dX12_leads_92 : decode cX12_leads 92 = .ok (.iload 4, 2) := by decide +kernel
theorem dX12_leads_94 : decode cX12_leads 94 = .ok (.aload_n 0, 1) := by decide +kernel
theorem dX12_leads_95 : decode cX12_leads 95 = .ok (.getfield 13, 3) := by decide +kernel
theorem dX12_leads_98 : decode cX12_leads 98 = .ok (.iconst 0, 1) := by decide +kernel
theorem dX12_leads_99 : decode cX12_leads 99 = .ok (.iaload, 1) := by decide +kernel
theorem dX12_leads_100 : decode cX12_leads 100 = .ok (.imul, 1) := by decide +kernel
theorem dX12_leads_101 : decode cX12_leads 101 = .ok (.iload_n 3, 1) := by decide +kernel
theorem dX12_leads_102 : decode cX12_leads 102 = .ok (.iadd, 1) := by decide +kernel
theorem dX12_leads_103 : decode cX12_leads 103 = .ok (.ireturn, 1) := by decide +kernel
noncomputable def b_X12_leads_0 (rec : Rk) (x1 x2 : Int) (h : Hp) : Option (Int × Hp) :=
  ck (0 ≤ (0 : Int) ∧ (0 : Int) < 30) <|
  ck ((0 : Int) ≤ x1 ∧ (0 : Int) < (gI h 61 0 0)) <|
  if x2 = 1 then (
    rec 1 [x1, x2, 1, x1 % (gI h 61 0 0)] h
  ) else (
    if x2 = 3 then (
      rec 1 [x1, x2, (-1), x1 % (gI h 61 0 0)] h
    ) else (
      rec 1 [x1, x2, 0, x1 % (gI h 61 0 0)] h
    )
  )
noncomputable def b_X12_leads_1 (rec : Rk) (x1 x2 y0 y1 : Int) (h : Hp) : Option (Int × Hp) :=
  ck (-2147483648 ≤ y1 + y0 ∧ y1 + y0 < 2147483648) <|
  lt (y1 + y0) fun z1 =>
  ck (0 ≤ (0 : Int) ∧ (0 : Int) < 30) <|
  ck ((0 : Int) ≤ x1 ∧ (0 : Int) < (gI h 61 0 0)) <|
  if x2 = 2 then (
    rec 2 [z1, 1, x1 / (gI h 61 0 0)] h
  ) else (
    if x2 = 0 then (
      rec 2 [z1, (-1), x1 / (gI h 61 0 0)] h
    ) else (
      rec 2 [z1, 0, x1 / (gI h 61 0 0)] h
    )
  )
noncomputable def b_X12_leads_2 (rec : Rk) (x3 y0 y1 : Int) (h : Hp) : Option (Int × Hp) :=
  ck (-2147483648 ≤ y1 + y0 ∧ y1 + y0 < 2147483648) <|
  lt (y1 + y0) fun z1 =>
  if x3 < 0 then (
    rec 3 [] h
  ) else (
    if z1 < 0 then (
      rec 3 [] h
    ) else (
      ck (0 ≤ (0 : Int) ∧ (0 : Int) < 30) <|
      if (gI h 61 0 0) ≤ x3 then (
        rec 3 [] h
      ) else (
        ck (0 ≤ (1 : Int) ∧ (1 : Int) < 30) <|
        if z1 < (gI h 61 0 1) then (
          ck (0 ≤ (0 : Int) ∧ (0 : Int) < 30) <|
          ck (-2147483648 ≤ z1 * (gI h 61 0 0) ∧ z1 * (gI h 61 0 0) < 2147483648) <|
          ck (-2147483648 ≤ (z1 * (gI h 61 0 0)) + x3 ∧ (z1 * (gI h 61 0 0)) + x3 < 2147483648) <|
          some ((z1 * (gI h 61 0 0)) + x3, h)
        ) else (
          rec 3 [] h
        )
      )
    )
  )
noncomputable def b_X12_leads_3 (rec : Rk) (h : Hp) : Option (Int × Hp) :=
  some ((-1), h)
noncomputable def g_X12_leads (n : Nat) : Rk := Nat.rec (motive := fun _ => Rk) (fun _ _ _ => none) (fun _ rec k l h => if k = 0 then b_X12_leads_0 rec (l.getD 0 0) (l.getD 1 0) h else if k = 1 then b_X12_leads_1 rec (l.getD 0 0) (l.getD 1 0) (l.getD 2 0) (l.getD 3 0) h else if k = 2 then b_X12_leads_2 rec (l.getD 0 0) (l.getD 1 0) (l.getD 2 0) h else if k = 3 then b_X12_leads_3 rec  h else none) n
noncomputable def f_X12_leads (x1 x2 : Int) (h : Hp) : Option (Int × Hp) := g_X12_leads FU 0 [x1, x2] h
set_option maxHeartbeats 4000000 in
set_option maxRecDepth 100000 in
theorem t_X12_leads_0 (E : xE) (d : Nat) (rec : Rk) (r : Int × Hp) (hr_27 : ∀ (x1 x2 y0 y1 : Int) (h : Hp), Lay h → rec 1 [x1, x2, y0, y1] h = some r → X E mX12_leads (d + 1) (0, 0) (0, 0) 27 [some (xr 12 0), some (xi x1), some (xi x2), none, none] [xi y0, xi y1] h (PoI r)) (x1 x2 : Int) (h : Hp) (hL : Lay h) (hF : b_X12_leads_0 rec x1 x2 h = some r) : X E mX12_leads (d + 1) (0, 0) (0, 0) 0 [some (xr 12 0), some (xi x1), some (xi x2), none, none] [] h (PoI r) := by
  unfold b_X12_leads_0 at hF
  refine x_iload_n (i := 1) (b := 1) dX12_leads_0 rfl rfl rfl ?_
  refine x_aload_n (i := 0) (b := 2) dX12_leads_1 rfl rfl rfl ?_
  refine x_getL (j := 0) (t := (61, 0, true)) (b := 5) fk_X12_13 dX12_leads_2 rfl hL rfl rfl rfl ?_
  refine x_iconst (n := 0) (b := 6) dX12_leads_5 (by decide) rfl ?_
  obtain ⟨hs, hF⟩ := ck_e hF
  refine x_iald (v := gI h 61 0 0) (b := 7) ak_61 dX12_leads_6 hs rfl rfl ?_
  obtain ⟨hs, hF⟩ := ck_e hF
  refine x_irem (b := 8) dX12_leads_7 hs.1 hs.2 rfl ?_
  refine x_iload_n (i := 2) (b := 9) dX12_leads_8 rfl rfl rfl ?_
  refine x_iconst (n := 1) (b := 10) dX12_leads_9 (by decide) rfl ?_
  refine x_icmp_ne (tgt := 17) (b := 13) dX12_leads_10 (by decide) rfl (fun hc => ?_) (fun hc => ?_)
  · replace hF := br_F hc hF
    refine x_iload_n (i := 2) (b := 18) dX12_leads_17 rfl rfl rfl ?_
    refine x_iconst (n := 3) (b := 19) dX12_leads_18 (by decide) rfl ?_
    refine x_icmp_ne (tgt := 26) (b := 22) dX12_leads_19 (by decide) rfl (fun hc => ?_) (fun hc => ?_)
    · replace hF := br_F hc hF
      refine x_iconst (n := 0) (b := 27) dX12_leads_26 (by decide) rfl ?_
      exact x_dp (ls2 := [some (xr 12 0), some (xi x1), some (xi x2), none, none]) ⟨rfl, rfl, rfl, trivial⟩ (hr_27 x1 x2 0 (x1 % (gI h 61 0 0)) h hL hF)
    · replace hF := br_T hc hF
      refine x_iconst (n := (-1)) (b := 23) dX12_leads_22 (by decide) rfl ?_
      refine x_goto (tgt := 27) dX12_leads_23 (by decide) ?_
      exact x_dp (ls2 := [some (xr 12 0), some (xi x1), some (xi x2), none, none]) ⟨rfl, rfl, rfl, trivial⟩ (hr_27 x1 x2 (-1) (x1 % (gI h 61 0 0)) h hL hF)
  · replace hF := br_T hc hF
    refine x_iconst (n := 1) (b := 14) dX12_leads_13 (by decide) rfl ?_
    refine x_goto (tgt := 27) dX12_leads_14 (by decide) ?_
    exact x_dp (ls2 := [some (xr 12 0), some (xi x1), some (xi x2), none, none]) ⟨rfl, rfl, rfl, trivial⟩ (hr_27 x1 x2 1 (x1 % (gI h 61 0 0)) h hL hF)
set_option maxHeartbeats 4000000 in
set_option maxRecDepth 100000 in
theorem t_X12_leads_1 (E : xE) (d : Nat) (rec : Rk) (r : Int × Hp) (hr_55 : ∀ (x3 y0 y1 : Int) (h : Hp), Lay h → rec 2 [x3, y0, y1] h = some r → X E mX12_leads (d + 1) (0, 0) (0, 0) 55 [some (xr 12 0), none, none, some (xi x3), none] [xi y0, xi y1] h (PoI r)) (x1 x2 y0 y1 : Int) (h : Hp) (hL : Lay h) (hF : b_X12_leads_1 rec x1 x2 y0 y1 h = some r) : X E mX12_leads (d + 1) (0, 0) (0, 0) 27 [some (xr 12 0), some (xi x1), some (xi x2), none, none] [xi y0, xi y1] h (PoI r) := by
  unfold b_X12_leads_1 at hF
  obtain ⟨hs, hF⟩ := ck_e hF
  refine x_iadd (b := 28) dX12_leads_27 hs rfl ?_
  obtain ⟨z1, e_z1, hF⟩ := lt_e hF
  refine x_eq (y := z1) e_z1 ?_
  refine x_istore_n (i := 3) (b := 29) (ls2 := [some (xr 12 0), some (xi x1), some (xi x2), some (xi z1), none]) dX12_leads_28 rfl (Nat.le_of_ble_eq_true rfl) rfl rfl ?_
  refine x_iload_n (i := 1) (b := 30) dX12_leads_29 rfl rfl rfl ?_
  refine x_aload_n (i := 0) (b := 31) dX12_leads_30 rfl rfl rfl ?_
  refine x_getL (j := 0) (t := (61, 0, true)) (b := 34) fk_X12_13 dX12_leads_31 rfl hL rfl rfl rfl ?_
  refine x_iconst (n := 0) (b := 35) dX12_leads_34 (by decide) rfl ?_
  obtain ⟨hs, hF⟩ := ck_e hF
  refine x_iald (v := gI h 61 0 0) (b := 36) ak_61 dX12_leads_35 hs rfl rfl ?_
  obtain ⟨hs, hF⟩ := ck_e hF
  refine x_idiv (b := 37) dX12_leads_36 hs.1 hs.2 rfl ?_
  refine x_iload_n (i := 2) (b := 38) dX12_leads_37 rfl rfl rfl ?_
  refine x_iconst (n := 2) (b := 39) dX12_leads_38 (by decide) rfl ?_
  refine x_icmp_ne (tgt := 46) (b := 42) dX12_leads_39 (by decide) rfl (fun hc => ?_) (fun hc => ?_)
  · replace hF := br_F hc hF
    refine x_iload_n (i := 2) (b := 47) dX12_leads_46 rfl rfl rfl ?_
    refine x_if_ne (tgt := 54) (b := 50) dX12_leads_47 (by decide) rfl (fun hc => ?_) (fun hc => ?_)
    · replace hF := br_F hc hF
      refine x_iconst (n := 0) (b := 55) dX12_leads_54 (by decide) rfl ?_
      exact x_dp (ls2 := [some (xr 12 0), none, none, some (xi z1), none]) ⟨rfl, rfl, trivial⟩ (hr_55 z1 0 (x1 / (gI h 61 0 0)) h hL hF)
    · replace hF := br_T hc hF
      refine x_iconst (n := (-1)) (b := 51) dX12_leads_50 (by decide) rfl ?_
      refine x_goto (tgt := 55) dX12_leads_51 (by decide) ?_
      exact x_dp (ls2 := [some (xr 12 0), none, none, some (xi z1), none]) ⟨rfl, rfl, trivial⟩ (hr_55 z1 (-1) (x1 / (gI h 61 0 0)) h hL hF)
  · replace hF := br_T hc hF
    refine x_iconst (n := 1) (b := 43) dX12_leads_42 (by decide) rfl ?_
    refine x_goto (tgt := 55) dX12_leads_43 (by decide) ?_
    exact x_dp (ls2 := [some (xr 12 0), none, none, some (xi z1), none]) ⟨rfl, rfl, trivial⟩ (hr_55 z1 1 (x1 / (gI h 61 0 0)) h hL hF)
set_option maxHeartbeats 4000000 in
set_option maxRecDepth 100000 in
theorem t_X12_leads_2 (E : xE) (d : Nat) (rec : Rk) (r : Int × Hp) (hr_88 : ∀ (h : Hp), Lay h → rec 3 [] h = some r → X E mX12_leads (d + 1) (0, 0) (0, 0) 88 [none, none, none, none, none] [] h (PoI r)) (x3 y0 y1 : Int) (h : Hp) (hL : Lay h) (hF : b_X12_leads_2 rec x3 y0 y1 h = some r) : X E mX12_leads (d + 1) (0, 0) (0, 0) 55 [some (xr 12 0), none, none, some (xi x3), none] [xi y0, xi y1] h (PoI r) := by
  unfold b_X12_leads_2 at hF
  obtain ⟨hs, hF⟩ := ck_e hF
  refine x_iadd (b := 56) dX12_leads_55 hs rfl ?_
  obtain ⟨z1, e_z1, hF⟩ := lt_e hF
  refine x_eq (y := z1) e_z1 ?_
  refine x_istore (i := 4) (b := 58) (ls2 := [some (xr 12 0), none, none, some (xi x3), some (xi z1)]) dX12_leads_56 (Nat.le_of_ble_eq_true rfl) rfl rfl ?_
  refine x_iload_n (i := 3) (b := 59) dX12_leads_58 rfl rfl rfl ?_
  refine x_if_lt (tgt := 88) (b := 62) dX12_leads_59 (by decide) rfl (fun hc => ?_) (fun hc => ?_)
  · replace hF := br_T hc hF
    exact x_dp (ls2 := [none, none, none, none, none]) trivial (hr_88  h hL hF)
  · replace hF := br_F hc hF
    refine x_iload (i := 4) (b := 64) dX12_leads_62 rfl rfl ?_
    refine x_if_lt (tgt := 88) (b := 67) dX12_leads_64 (by decide) rfl (fun hc => ?_) (fun hc => ?_)
    · replace hF := br_T hc hF
      exact x_dp (ls2 := [none, none, none, none, none]) trivial (hr_88  h hL hF)
    · replace hF := br_F hc hF
      refine x_iload_n (i := 3) (b := 68) dX12_leads_67 rfl rfl rfl ?_
      refine x_aload_n (i := 0) (b := 69) dX12_leads_68 rfl rfl rfl ?_
      refine x_getL (j := 0) (t := (61, 0, true)) (b := 72) fk_X12_13 dX12_leads_69 rfl hL rfl rfl rfl ?_
      refine x_iconst (n := 0) (b := 73) dX12_leads_72 (by decide) rfl ?_
      obtain ⟨hs, hF⟩ := ck_e hF
      refine x_iald (v := gI h 61 0 0) (b := 74) ak_61 dX12_leads_73 hs rfl rfl ?_
      refine x_icmp_ge (tgt := 88) (b := 77) dX12_leads_74 (by decide) rfl (fun hc => ?_) (fun hc => ?_)
      · replace hF := br_T hc hF
        exact x_dp (ls2 := [none, none, none, none, none]) trivial (hr_88  h hL hF)
      · replace hF := br_F hc hF
        refine x_iload (i := 4) (b := 79) dX12_leads_77 rfl rfl ?_
        refine x_aload_n (i := 0) (b := 80) dX12_leads_79 rfl rfl rfl ?_
        refine x_getL (j := 0) (t := (61, 0, true)) (b := 83) fk_X12_13 dX12_leads_80 rfl hL rfl rfl rfl ?_
        refine x_iconst (n := 1) (b := 84) dX12_leads_83 (by decide) rfl ?_
        obtain ⟨hs, hF⟩ := ck_e hF
        refine x_iald (v := gI h 61 0 1) (b := 85) ak_61 dX12_leads_84 hs rfl rfl ?_
        refine x_icmp_lt (tgt := 92) (b := 88) dX12_leads_85 (by decide) rfl (fun hc => ?_) (fun hc => ?_)
        · replace hF := br_T hc hF
          refine x_iload (i := 4) (b := 94) dX12_leads_92 rfl rfl ?_
          refine x_aload_n (i := 0) (b := 95) dX12_leads_94 rfl rfl rfl ?_
          refine x_getL (j := 0) (t := (61, 0, true)) (b := 98) fk_X12_13 dX12_leads_95 rfl hL rfl rfl rfl ?_
          refine x_iconst (n := 0) (b := 99) dX12_leads_98 (by decide) rfl ?_
          obtain ⟨hs, hF⟩ := ck_e hF
          refine x_iald (v := gI h 61 0 0) (b := 100) ak_61 dX12_leads_99 hs rfl rfl ?_
          obtain ⟨hs, hF⟩ := ck_e hF
          refine x_imul (b := 101) dX12_leads_100 hs rfl ?_
          refine x_iload_n (i := 3) (b := 102) dX12_leads_101 rfl rfl rfl ?_
          obtain ⟨hs, hF⟩ := ck_e hF
          refine x_iadd (b := 103) dX12_leads_102 hs rfl ?_
          refine x_ireturn dX12_leads_103 rfl ⟨Nat.le_refl _, Nat.le_refl _⟩ ?_
          cases hF
          exact ⟨rfl, rfl, hL⟩
        · replace hF := br_F hc hF
          exact x_dp (ls2 := [none, none, none, none, none]) trivial (hr_88  h hL hF)
set_option maxHeartbeats 4000000 in
set_option maxRecDepth 100000 in
theorem t_X12_leads_3 (E : xE) (d : Nat) (rec : Rk) (r : Int × Hp) (h : Hp) (hL : Lay h) (hF : b_X12_leads_3 rec  h = some r) : X E mX12_leads (d + 1) (0, 0) (0, 0) 88 [none, none, none, none, none] [] h (PoI r) := by
  unfold b_X12_leads_3 at hF
  refine x_iconst (n := (-1)) (b := 89) dX12_leads_88 (by decide) rfl ?_
  refine x_goto (tgt := 103) dX12_leads_89 (by decide) ?_
  refine x_ireturn dX12_leads_103 rfl ⟨Nat.le_refl _, Nat.le_refl _⟩ ?_
  cases hF
  exact ⟨rfl, rfl, hL⟩
set_option maxHeartbeats 4000000 in
set_option maxRecDepth 100000 in
theorem u_X12_leads (E : xE) (d : Nat) (r : Int × Hp) : ∀ n : Nat, (∀ (x1 x2 : Int) (h : Hp), Lay h → g_X12_leads n 0 [x1, x2] h = some r → X E mX12_leads (d + 1) (0, 0) (0, 0) 0 [some (xr 12 0), some (xi x1), some (xi x2), none, none] [] h (PoI r)) ∧ (∀ (x1 x2 y0 y1 : Int) (h : Hp), Lay h → g_X12_leads n 1 [x1, x2, y0, y1] h = some r → X E mX12_leads (d + 1) (0, 0) (0, 0) 27 [some (xr 12 0), some (xi x1), some (xi x2), none, none] [xi y0, xi y1] h (PoI r)) ∧ (∀ (x3 y0 y1 : Int) (h : Hp), Lay h → g_X12_leads n 2 [x3, y0, y1] h = some r → X E mX12_leads (d + 1) (0, 0) (0, 0) 55 [some (xr 12 0), none, none, some (xi x3), none] [xi y0, xi y1] h (PoI r)) ∧ (∀ (h : Hp), Lay h → g_X12_leads n 3 [] h = some r → X E mX12_leads (d + 1) (0, 0) (0, 0) 88 [none, none, none, none, none] [] h (PoI r)) := by
  intro n
  induction n with
  | zero => exact ⟨fun _ _ _ _ hF => no_e (r := r) hF, fun _ _ _ _ _ _ hF => no_e (r := r) hF, fun _ _ _ _ _ hF => no_e (r := r) hF, fun _ _ hF => no_e (r := r) hF⟩
  | succ n ih => exact ⟨fun x1 x2 h hL hF => t_X12_leads_0 E d (g_X12_leads n) r ih.2.1 x1 x2 h hL hF, fun x1 x2 y0 y1 h hL hF => t_X12_leads_1 E d (g_X12_leads n) r ih.2.2.1 x1 x2 y0 y1 h hL hF, fun x3 y0 y1 h hL hF => t_X12_leads_2 E d (g_X12_leads n) r ih.2.2.2 x3 y0 y1 h hL hF, fun h hL hF => t_X12_leads_3 E d (g_X12_leads n) r   h hL hF⟩
theorem c_X12_leads (d : Nat) (x1 x2 : Int) (h : Hp) (r : Int × Hp) (hL : Lay h) (hF : f_X12_leads x1 x2 h = some r) : Sp mX12_leads (d + 1) (0, 0) [xr 12 0, xi x1, xi x2] h (PoI r) :=
  sp_of (by decide) rfl (Nat.le_of_ble_eq_true rfl) (ls := [some (xr 12 0), some (xi x1), some (xi x2), none, none]) rfl (fun E _ => (u_X12_leads E d r FU).1 x1 x2 h hL hF)
theorem dX12_log_0 : decode cX12_log 0 = .ok (.aload_n 0, 1) := by decide +kernel
theorem dX12_log_1 : decode cX12_log 1 = .ok (.iconst 0, 1) := by decide +kernel
theorem dX12_log_2 : decode cX12_log 2 = .ok (.putfield 194, 3) := by decide +kernel
theorem dX12_log_5 : decode cX12_log 5 = .ok (.iload_n 1, 1) := by decide +kernel
theorem dX12_log_6 : decode cX12_log 6 = .ok (.ifCond .lt 13, 3) := by decide +kernel
theorem dX12_log_9 : decode cX12_log 9 = .ok (.iload_n 1, 1) := by decide +kernel
theorem dX12_log_10 : decode cX12_log 10 = .ok (.aload_n 0, 1) := by decide +kernel
theorem dX12_log_11 : decode cX12_log 11 = .ok (.getfield 87, 3) := by decide +kernel
theorem dX12_log_14 : decode cX12_log 14 = .ok (.iconst 0, 1) := by decide +kernel
theorem dX12_log_15 : decode cX12_log 15 = .ok (.iaload, 1) := by decide +kernel
theorem dX12_log_16 : decode cX12_log 16 = .ok (.if_icmp .lt 5, 3) := by decide +kernel
theorem dX12_log_19 : decode cX12_log 19 = .ok (.iconst (-1), 1) := by decide +kernel
theorem dX12_log_20 : decode cX12_log 20 = .ok (.ireturn, 1) := by decide +kernel
theorem dX12_log_21 : decode cX12_log 21 = .ok (.iload_n 2, 1) := by decide +kernel
theorem dX12_log_22 : decode cX12_log 22 = .ok (.ifCond .ne 12, 3) := by decide +kernel
theorem dX12_log_25 : decode cX12_log 25 = .ok (.aload_n 0, 1) := by decide +kernel
theorem dX12_log_26 : decode cX12_log 26 = .ok (.getfield 114, 3) := by decide +kernel
theorem dX12_log_29 : decode cX12_log 29 = .ok (.iload_n 1, 1) := by decide +kernel
theorem dX12_log_30 : decode cX12_log 30 = .ok (.iaload, 1) := by decide +kernel
theorem dX12_log_31 : decode cX12_log 31 = .ok (.goto 46, 3) := by decide +kernel
theorem dX12_log_34 : decode cX12_log 34 = .ok (.iload_n 2, 1) := by decide +kernel
theorem dX12_log_35 : decode cX12_log 35 = .ok (.iconst 1, 1) := by decide +kernel
theorem dX12_log_36 : decode cX12_log 36 = .ok (.if_icmp .ne 12, 3) := by decide +kernel
theorem dX12_log_39 : decode cX12_log 39 = .ok (.aload_n 0, 1) := by decide +kernel
theorem dX12_log_40 : decode cX12_log 40 = .ok (.getfield 117, 3) := by decide +kernel
theorem dX12_log_43 : decode cX12_log 43 = .ok (.iload_n 1, 1) := by decide +kernel
theorem dX12_log_44 : decode cX12_log 44 = .ok (.iaload, 1) := by decide +kernel
theorem dX12_log_45 : decode cX12_log 45 = .ok (.goto 32, 3) := by decide +kernel
theorem dX12_log_48 : decode cX12_log 48 = .ok (.iload_n 2, 1) := by decide +kernel
theorem dX12_log_49 : decode cX12_log 49 = .ok (.iconst 2, 1) := by decide +kernel
theorem dX12_log_50 : decode cX12_log 50 = .ok (.if_icmp .ne 12, 3) := by decide +kernel
theorem dX12_log_53 : decode cX12_log 53 = .ok (.aload_n 0, 1) := by decide +kernel
theorem dX12_log_54 : decode cX12_log 54 = .ok (.getfield 120, 3) := by decide +kernel
theorem dX12_log_57 : decode cX12_log 57 = .ok (.iload_n 1, 1) := by decide +kernel
theorem dX12_log_58 : decode cX12_log 58 = .ok (.iaload, 1) := by decide +kernel
theorem dX12_log_59 : decode cX12_log 59 = .ok (.goto 18, 3) := by decide +kernel
theorem dX12_log_62 : decode cX12_log 62 = .ok (.iload_n 2, 1) := by decide +kernel
theorem dX12_log_63 : decode cX12_log 63 = .ok (.iconst 3, 1) := by decide +kernel
theorem dX12_log_64 : decode cX12_log 64 = .ok (.if_icmp .ne 12, 3) := by decide +kernel
theorem dX12_log_67 : decode cX12_log 67 = .ok (.aload_n 0, 1) := by decide +kernel
theorem dX12_log_68 : decode cX12_log 68 = .ok (.getfield 123, 3) := by decide +kernel
theorem dX12_log_71 : decode cX12_log 71 = .ok (.iload_n 1, 1) := by decide +kernel
theorem dX12_log_72 : decode cX12_log 72 = .ok (.iaload, 1) := by decide +kernel
theorem dX12_log_73 : decode cX12_log 73 = .ok (.goto 4, 3) := by decide +kernel
theorem dX12_log_76 : decode cX12_log 76 = .ok (.iconst (-1), 1) := by decide +kernel
theorem dX12_log_77 : decode cX12_log 77 = .ok (.ireturn, 1) := by decide +kernel
noncomputable def b_X12_log_0 (rec : Rk) (x1 x2 : Int) (h : Hp) : Option (Int × Hp) :=
  lt (sI h 12 0 0 0) fun h1 =>
  if x1 < 0 then (
    some ((-1), h1)
  ) else (
    ck (0 ≤ (0 : Int) ∧ (0 : Int) < 23) <|
    if x1 < (gI h1 84 0 0) then (
      if x2 = 0 then (
        ck (0 ≤ x1 ∧ x1 < 180) <|
        some (gI h1 93 0 x1, h1)
      ) else (
        if x2 = 1 then (
          ck (0 ≤ x1 ∧ x1 < 180) <|
          some (gI h1 94 0 x1, h1)
        ) else (
          if x2 = 2 then (
            ck (0 ≤ x1 ∧ x1 < 180) <|
            some (gI h1 95 0 x1, h1)
          ) else (
            if x2 = 3 then (
              ck (0 ≤ x1 ∧ x1 < 180) <|
              some (gI h1 96 0 x1, h1)
            ) else (
              some ((-1), h1)
            )
          )
        )
      )
    ) else (
      some ((-1), h1)
    )
  )
noncomputable def g_X12_log (n : Nat) : Rk := Nat.rec (motive := fun _ => Rk) (fun _ _ _ => none) (fun _ rec k l h => if k = 0 then b_X12_log_0 rec (l.getD 0 0) (l.getD 1 0) h else none) n
noncomputable def f_X12_log (x1 x2 : Int) (h : Hp) : Option (Int × Hp) := g_X12_log FU 0 [x1, x2] h
set_option maxHeartbeats 4000000 in
set_option maxRecDepth 100000 in
theorem t_X12_log_0 (E : xE) (d : Nat) (rec : Rk) (r : Int × Hp) (x1 x2 : Int) (h : Hp) (hL : Lay h) (hF : b_X12_log_0 rec x1 x2 h = some r) : X E mX12_log (d + 1) (0, 0) (0, 0) 0 [some (xr 12 0), some (xi x1), some (xi x2)] [] h (PoI r) := by
  unfold b_X12_log_0 at hF
  refine x_aload_n (i := 0) (b := 1) dX12_log_0 rfl rfl rfl ?_
  refine x_iconst (n := 0) (b := 2) dX12_log_1 (by decide) rfl ?_
  refine x_putI (b := 5) fk_X12_194 dX12_log_2 rfl rfl 0 rfl ?_
  obtain ⟨h1, e_h1, hF⟩ := lt_e hF
  refine x_hp (h2 := h1) e_h1 ?_
  replace hL : Lay h1 := by rw [← e_h1]; exact hL
  refine x_iload_n (i := 1) (b := 6) dX12_log_5 rfl rfl rfl ?_
  refine x_if_lt (tgt := 19) (b := 9) dX12_log_6 (by decide) rfl (fun hc => ?_) (fun hc => ?_)
  · replace hF := br_T hc hF
    refine x_iconst (n := (-1)) (b := 20) dX12_log_19 (by decide) rfl ?_
    refine x_ireturn dX12_log_20 rfl ⟨Nat.le_refl _, Nat.le_refl _⟩ ?_
    cases hF
    exact ⟨rfl, rfl, hL⟩
  · replace hF := br_F hc hF
    refine x_iload_n (i := 1) (b := 10) dX12_log_9 rfl rfl rfl ?_
    refine x_aload_n (i := 0) (b := 11) dX12_log_10 rfl rfl rfl ?_
    refine x_getL (j := 0) (t := (84, 0, true)) (b := 14) fk_X12_87 dX12_log_11 rfl hL rfl rfl rfl ?_
    refine x_iconst (n := 0) (b := 15) dX12_log_14 (by decide) rfl ?_
    obtain ⟨hs, hF⟩ := ck_e hF
    refine x_iald (v := gI h1 84 0 0) (b := 16) ak_84 dX12_log_15 hs rfl rfl ?_
    refine x_icmp_lt (tgt := 21) (b := 19) dX12_log_16 (by decide) rfl (fun hc => ?_) (fun hc => ?_)
    · replace hF := br_T hc hF
      refine x_iload_n (i := 2) (b := 22) dX12_log_21 rfl rfl rfl ?_
      refine x_if_ne (tgt := 34) (b := 25) dX12_log_22 (by decide) rfl (fun hc => ?_) (fun hc => ?_)
      · replace hF := br_F hc hF
        refine x_iload_n (i := 2) (b := 35) dX12_log_34 rfl rfl rfl ?_
        refine x_iconst (n := 1) (b := 36) dX12_log_35 (by decide) rfl ?_
        refine x_icmp_ne (tgt := 48) (b := 39) dX12_log_36 (by decide) rfl (fun hc => ?_) (fun hc => ?_)
        · replace hF := br_F hc hF
          refine x_iload_n (i := 2) (b := 49) dX12_log_48 rfl rfl rfl ?_
          refine x_iconst (n := 2) (b := 50) dX12_log_49 (by decide) rfl ?_
          refine x_icmp_ne (tgt := 62) (b := 53) dX12_log_50 (by decide) rfl (fun hc => ?_) (fun hc => ?_)
          · replace hF := br_F hc hF
            refine x_iload_n (i := 2) (b := 63) dX12_log_62 rfl rfl rfl ?_
            refine x_iconst (n := 3) (b := 64) dX12_log_63 (by decide) rfl ?_
            refine x_icmp_ne (tgt := 76) (b := 67) dX12_log_64 (by decide) rfl (fun hc => ?_) (fun hc => ?_)
            · replace hF := br_F hc hF
              refine x_iconst (n := (-1)) (b := 77) dX12_log_76 (by decide) rfl ?_
              refine x_ireturn dX12_log_77 rfl ⟨Nat.le_refl _, Nat.le_refl _⟩ ?_
              cases hF
              exact ⟨rfl, rfl, hL⟩
            · replace hF := br_T hc hF
              refine x_aload_n (i := 0) (b := 68) dX12_log_67 rfl rfl rfl ?_
              refine x_getL (j := 0) (t := (96, 0, true)) (b := 71) fk_X12_123 dX12_log_68 rfl hL rfl rfl rfl ?_
              refine x_iload_n (i := 1) (b := 72) dX12_log_71 rfl rfl rfl ?_
              obtain ⟨hs, hF⟩ := ck_e hF
              refine x_iald (v := gI h1 96 0 x1) (b := 73) ak_96 dX12_log_72 hs rfl rfl ?_
              refine x_goto (tgt := 77) dX12_log_73 (by decide) ?_
              refine x_ireturn dX12_log_77 rfl ⟨Nat.le_refl _, Nat.le_refl _⟩ ?_
              cases hF
              exact ⟨rfl, rfl, hL⟩
          · replace hF := br_T hc hF
            refine x_aload_n (i := 0) (b := 54) dX12_log_53 rfl rfl rfl ?_
            refine x_getL (j := 0) (t := (95, 0, true)) (b := 57) fk_X12_120 dX12_log_54 rfl hL rfl rfl rfl ?_
            refine x_iload_n (i := 1) (b := 58) dX12_log_57 rfl rfl rfl ?_
            obtain ⟨hs, hF⟩ := ck_e hF
            refine x_iald (v := gI h1 95 0 x1) (b := 59) ak_95 dX12_log_58 hs rfl rfl ?_
            refine x_goto (tgt := 77) dX12_log_59 (by decide) ?_
            refine x_ireturn dX12_log_77 rfl ⟨Nat.le_refl _, Nat.le_refl _⟩ ?_
            cases hF
            exact ⟨rfl, rfl, hL⟩
        · replace hF := br_T hc hF
          refine x_aload_n (i := 0) (b := 40) dX12_log_39 rfl rfl rfl ?_
          refine x_getL (j := 0) (t := (94, 0, true)) (b := 43) fk_X12_117 dX12_log_40 rfl hL rfl rfl rfl ?_
          refine x_iload_n (i := 1) (b := 44) dX12_log_43 rfl rfl rfl ?_
          obtain ⟨hs, hF⟩ := ck_e hF
          refine x_iald (v := gI h1 94 0 x1) (b := 45) ak_94 dX12_log_44 hs rfl rfl ?_
          refine x_goto (tgt := 77) dX12_log_45 (by decide) ?_
          refine x_ireturn dX12_log_77 rfl ⟨Nat.le_refl _, Nat.le_refl _⟩ ?_
          cases hF
          exact ⟨rfl, rfl, hL⟩
      · replace hF := br_T hc hF
        refine x_aload_n (i := 0) (b := 26) dX12_log_25 rfl rfl rfl ?_
        refine x_getL (j := 0) (t := (93, 0, true)) (b := 29) fk_X12_114 dX12_log_26 rfl hL rfl rfl rfl ?_
        refine x_iload_n (i := 1) (b := 30) dX12_log_29 rfl rfl rfl ?_
        obtain ⟨hs, hF⟩ := ck_e hF
        refine x_iald (v := gI h1 93 0 x1) (b := 31) ak_93 dX12_log_30 hs rfl rfl ?_
        refine x_goto (tgt := 77) dX12_log_31 (by decide) ?_
        refine x_ireturn dX12_log_77 rfl ⟨Nat.le_refl _, Nat.le_refl _⟩ ?_
        cases hF
        exact ⟨rfl, rfl, hL⟩
    · replace hF := br_F hc hF
      refine x_iconst (n := (-1)) (b := 20) dX12_log_19 (by decide) rfl ?_
      refine x_ireturn dX12_log_20 rfl ⟨Nat.le_refl _, Nat.le_refl _⟩ ?_
      cases hF
      exact ⟨rfl, rfl, hL⟩
set_option maxHeartbeats 4000000 in
set_option maxRecDepth 100000 in
theorem u_X12_log (E : xE) (d : Nat) (r : Int × Hp) : ∀ n : Nat, (∀ (x1 x2 : Int) (h : Hp), Lay h → g_X12_log n 0 [x1, x2] h = some r → X E mX12_log (d + 1) (0, 0) (0, 0) 0 [some (xr 12 0), some (xi x1), some (xi x2)] [] h (PoI r)) := by
  intro n
  induction n with
  | zero => exact fun _ _ _ _ hF => no_e (r := r) hF
  | succ n ih => exact fun x1 x2 h hL hF => t_X12_log_0 E d (g_X12_log n) r  x1 x2 h hL hF
theorem c_X12_log (d : Nat) (x1 x2 : Int) (h : Hp) (r : Int × Hp) (hL : Lay h) (hF : f_X12_log x1 x2 h = some r) : Sp mX12_log (d + 1) (0, 0) [xr 12 0, xi x1, xi x2] h (PoI r) :=
  sp_of (by decide) rfl (Nat.le_of_ble_eq_true rfl) (ls := [some (xr 12 0), some (xi x1), some (xi x2)]) rfl (fun E _ => (u_X12_log E d r FU) x1 x2 h hL hF)
theorem dX12_name_0 : decode cX12_name 0 = .ok (.aload_n 0, 1) := by decide +kernel
theorem dX12_name_1 : decode cX12_name 1 = .ok (.iconst 0, 1) := by decide +kernel
theorem dX12_name_2 : decode cX12_name 2 = .ok (.putfield 223, 3) := by decide +kernel
theorem dX12_name_5 : decode cX12_name 5 = .ok (.iconst 0, 1) := by decide +kernel
theorem dX12_name_6 : decode cX12_name 6 = .ok (.istore_n 1, 1) := by decide +kernel
theorem dX12_name_7 : decode cX12_name 7 = .ok (.iload_n 1, 1) := by decide +kernel
theorem dX12_name_8 : decode cX12_name 8 = .ok (.bipush 6, 2) := by decide +kernel
theorem dX12_name_10 : decode cX12_name 10 = .ok (.if_icmp .ge 53, 3) := by decide +kernel
theorem dX12_name_13 : decode cX12_name 13 = .ok (.aload_n 0, 1) := by decide +kernel
theorem dX12_name_14 : decode cX12_name 14 = .ok (.aload_n 0, 1) := by decide +kernel
theorem dX12_name_15 : decode cX12_name 15 = .ok (.getfield 223, 3) := by decide +kernel
theorem dX12_name_18 : decode cX12_name 18 = .ok (.iconst 5, 1) := by decide +kernel
theorem dX12_name_19 : decode cX12_name 19 = .ok (.ishl, 1) := by decide +kernel
theorem dX12_name_20 : decode cX12_name 20 = .ok (.aload_n 0, 1) := by decide +kernel
theorem dX12_name_21 : decode cX12_name 21 = .ok (.getfield 210, 3) := by decide +kernel
theorem dX12_name_24 : decode cX12_name 24 = .ok (.iload_n 1, 1) := by decide +kernel
theorem dX12_name_25 : decode cX12_name 25 = .ok (.iadd, 1) := by decide +kernel
theorem dX12_name_26 : decode cX12_name 26 = .ok (.aload_n 0, 1) := by decide +kernel
theorem dX12_name_27 : decode cX12_name 27 = .ok (.getfield 200, 3) := by decide +kernel
theorem dX12_name_30 : decode cX12_name 30 = .ok (.if_icmp .ge 22, 3) := by decide +kernel
theorem dX12_name_33 : decode cX12_name 33 = .ok (.aload_n 0, 1) := by decide +kernel
theorem dX12_name_34 : decode cX12_name 34 = .ok (.getfield 7, 3) := by decide +kernel
theorem dX12_name_37 : decode cX12_name 37 = .ok (.aload_n 0, 1) := by decide +kernel
theorem dX12_name_38 : decode cX12_name 38 = .ok (.getfield 210, 3) := by decide +kernel
theorem dX12_name_41 : decode cX12_name 41 = .ok (.iload_n 1, 1) := by decide +kernel
theorem dX12_name_42 : decode cX12_name 42 = .ok (.iadd, 1) := by decide +kernel
theorem dX12_name_43 : decode cX12_name 43 = .ok (.iaload, 1) := by decide +kernel
theorem dX12_name_44 : decode cX12_name 44 = .ok (.bipush 97, 2) := by decide +kernel
theorem dX12_name_46 : decode cX12_name 46 = .ok (.isub, 1) := by decide +kernel
theorem dX12_name_47 : decode cX12_name 47 = .ok (.iconst 1, 1) := by decide +kernel
theorem dX12_name_48 : decode cX12_name 48 = .ok (.iadd, 1) := by decide +kernel
theorem dX12_name_49 : decode cX12_name 49 = .ok (.goto 4, 3) := by decide +kernel
theorem dX12_name_52 : decode cX12_name 52 = .ok (.iconst 0, 1) := by decide +kernel
theorem dX12_name_53 : decode cX12_name 53 = .ok (.ior, 1) := by decide +kernel
theorem dX12_name_54 : decode cX12_name 54 = .ok (.putfield 223, 3) := by decide +kernel
theorem dX12_name_57 : decode cX12_name 57 = .ok (.iinc 1 1, 3) := by decide +kernel
theorem dX12_name_60 : decode cX12_name 60 = .ok (.goto (-53), 3) := by decide +kernel
theorem dX12_name_63 : decode cX12_name 63 = .ok (.return_, 1) := by decide +kernel
noncomputable def b_X12_name_0 (rec : Rk) (h : Hp) : Option (Int × Hp) :=
  lt (sI h 12 0 31 0) fun h1 =>
  rec 1 [0] h1
noncomputable def b_X12_name_1 (rec : Rk) (x1 : Int) (h : Hp) : Option (Int × Hp) :=
  if 6 ≤ x1 then (
    some (0, h)
  ) else (
    ck (-2147483648 ≤ (gI h 12 0 29) + x1 ∧ (gI h 12 0 29) + x1 < 2147483648) <|
    if (gI h 12 0 28) ≤ ((gI h 12 0 29) + x1) then (
      rec 2 [x1, 0, bshl (gI h 12 0 31) 5] h
    ) else (
      ck (-2147483648 ≤ (gI h 12 0 29) + x1 ∧ (gI h 12 0 29) + x1 < 2147483648) <|
      ck (0 ≤ ((gI h 12 0 29) + x1) ∧ ((gI h 12 0 29) + x1) < 800) <|
      ck (-2147483648 ≤ (gI h 60 0 ((gI h 12 0 29) + x1)) - 97 ∧ (gI h 60 0 ((gI h 12 0 29) + x1)) - 97 < 2147483648) <|
      ck (-2147483648 ≤ ((gI h 60 0 ((gI h 12 0 29) + x1)) - 97) + 1 ∧ ((gI h 60 0 ((gI h 12 0 29) + x1)) - 97) + 1 < 2147483648) <|
      rec 2 [x1, ((gI h 60 0 ((gI h 12 0 29) + x1)) - 97) + 1, bshl (gI h 12 0 31) 5] h
    )
  )
noncomputable def b_X12_name_2 (rec : Rk) (x1 y0 y1 : Int) (h : Hp) : Option (Int × Hp) :=
  lt (sI h 12 0 31 (bor y1 y0)) fun h1 =>
  ck (-2147483648 ≤ x1 + 1 ∧ x1 + 1 < 2147483648) <|
  rec 1 [x1 + 1] h1
noncomputable def g_X12_name (n : Nat) : Rk := Nat.rec (motive := fun _ => Rk) (fun _ _ _ => none) (fun _ rec k l h => if k = 0 then b_X12_name_0 rec  h else if k = 1 then b_X12_name_1 rec (l.getD 0 0) h else if k = 2 then b_X12_name_2 rec (l.getD 0 0) (l.getD 1 0) (l.getD 2 0) h else none) n
noncomputable def f_X12_name (h : Hp) : Option (Int × Hp) := g_X12_name FU 0 [] h
set_option maxHeartbeats 4000000 in
set_option maxRecDepth 100000 in
theorem t_X12_name_0 (E : xE) (d : Nat) (rec : Rk) (r : Int × Hp) (hr_7 : ∀ (x1 : Int) (h : Hp), Lay h → rec 1 [x1] h = some r → X E mX12_name (d + 1) (0, 0) (0, 0) 7 [some (xr 12 0), some (xi x1)] [] h (PoV r)) (h : Hp) (hL : Lay h) (hF : b_X12_name_0 rec  h = some r) : X E mX12_name (d + 1) (0, 0) (0, 0) 0 [some (xr 12 0), none] [] h (PoV r) := by
  unfold b_X12_name_0 at hF
  refine x_aload_n (i := 0) (b := 1) dX12_name_0 rfl rfl rfl ?_
  refine x_iconst (n := 0) (b := 2) dX12_name_1 (by decide) rfl ?_
  refine x_putI (b := 5) fk_X12_223 dX12_name_2 rfl rfl 31 rfl ?_
  obtain ⟨h1, e_h1, hF⟩ := lt_e hF
  refine x_hp (h2 := h1) e_h1 ?_
  replace hL : Lay h1 := by rw [← e_h1]; exact hL
  refine x_iconst (n := 0) (b := 6) dX12_name_5 (by decide) rfl ?_
  refine x_istore_n (i := 1) (b := 7) (ls2 := [some (xr 12 0), some (xi 0)]) dX12_name_6 rfl (Nat.le_of_ble_eq_true rfl) rfl rfl ?_
  exact x_dp (ls2 := [some (xr 12 0), some (xi 0)]) ⟨rfl, rfl, trivial⟩ (hr_7 0 h1 hL hF)
set_option maxHeartbeats 4000000 in
set_option maxRecDepth 100000 in
theorem t_X12_name_1 (E : xE) (d : Nat) (rec : Rk) (r : Int × Hp) (hr_53 : ∀ (x1 y0 y1 : Int) (h : Hp), Lay h → rec 2 [x1, y0, y1] h = some r → X E mX12_name (d + 1) (0, 0) (0, 0) 53 [some (xr 12 0), some (xi x1)] [xi y0, xi y1, xr 12 0] h (PoV r)) (x1 : Int) (h : Hp) (hL : Lay h) (hF : b_X12_name_1 rec x1 h = some r) : X E mX12_name (d + 1) (0, 0) (0, 0) 7 [some (xr 12 0), some (xi x1)] [] h (PoV r) := by
  unfold b_X12_name_1 at hF
  refine x_iload_n (i := 1) (b := 8) dX12_name_7 rfl rfl rfl ?_
  refine x_bipush (n := 6) (b := 10) dX12_name_8 (by decide) rfl ?_
  refine x_icmp_ge (tgt := 63) (b := 13) dX12_name_10 (by decide) rfl (fun hc => ?_) (fun hc => ?_)
  · replace hF := br_T hc hF
    refine x_return dX12_name_63 rfl ⟨Nat.le_refl _, Nat.le_refl _⟩ ?_
    cases hF
    exact ⟨rfl, rfl, hL⟩
  · replace hF := br_F hc hF
    refine x_aload_n (i := 0) (b := 14) dX12_name_13 rfl rfl rfl ?_
    refine x_aload_n (i := 0) (b := 15) dX12_name_14 rfl rfl rfl ?_
    refine x_getI (v := gI h 12 0 31) (b := 18) fk_X12_223 dX12_name_15 (by decide) rfl rfl ?_
    refine x_iconst (n := 5) (b := 19) dX12_name_18 (by decide) rfl ?_
    refine x_ishl (b := 20) dX12_name_19 rfl ?_
    refine x_aload_n (i := 0) (b := 21) dX12_name_20 rfl rfl rfl ?_
    refine x_getI (v := gI h 12 0 29) (b := 24) fk_X12_210 dX12_name_21 (by decide) rfl rfl ?_
    refine x_iload_n (i := 1) (b := 25) dX12_name_24 rfl rfl rfl ?_
    obtain ⟨hs, hF⟩ := ck_e hF
    refine x_iadd (b := 26) dX12_name_25 hs rfl ?_
    refine x_aload_n (i := 0) (b := 27) dX12_name_26 rfl rfl rfl ?_
    refine x_getI (v := gI h 12 0 28) (b := 30) fk_X12_200 dX12_name_27 (by decide) rfl rfl ?_
    refine x_icmp_ge (tgt := 52) (b := 33) dX12_name_30 (by decide) rfl (fun hc => ?_) (fun hc => ?_)
    · replace hF := br_T hc hF
      refine x_iconst (n := 0) (b := 53) dX12_name_52 (by decide) rfl ?_
      exact x_dp (ls2 := [some (xr 12 0), some (xi x1)]) ⟨rfl, rfl, trivial⟩ (hr_53 x1 0 (bshl (gI h 12 0 31) 5) h hL hF)
    · replace hF := br_F hc hF
      refine x_aload_n (i := 0) (b := 34) dX12_name_33 rfl rfl rfl ?_
      refine x_getL (j := 0) (t := (60, 0, true)) (b := 37) fk_X12_7 dX12_name_34 rfl hL rfl rfl rfl ?_
      refine x_aload_n (i := 0) (b := 38) dX12_name_37 rfl rfl rfl ?_
      refine x_getI (v := gI h 12 0 29) (b := 41) fk_X12_210 dX12_name_38 (by decide) rfl rfl ?_
      refine x_iload_n (i := 1) (b := 42) dX12_name_41 rfl rfl rfl ?_
      obtain ⟨hs, hF⟩ := ck_e hF
      refine x_iadd (b := 43) dX12_name_42 hs rfl ?_
      obtain ⟨hs, hF⟩ := ck_e hF
      refine x_iald (v := gI h 60 0 ((gI h 12 0 29) + x1)) (b := 44) ak_60 dX12_name_43 hs rfl rfl ?_
      refine x_bipush (n := 97) (b := 46) dX12_name_44 (by decide) rfl ?_
      obtain ⟨hs, hF⟩ := ck_e hF
      refine x_isub (b := 47) dX12_name_46 hs rfl ?_
      refine x_iconst (n := 1) (b := 48) dX12_name_47 (by decide) rfl ?_
      obtain ⟨hs, hF⟩ := ck_e hF
      refine x_iadd (b := 49) dX12_name_48 hs rfl ?_
      refine x_goto (tgt := 53) dX12_name_49 (by decide) ?_
      exact x_dp (ls2 := [some (xr 12 0), some (xi x1)]) ⟨rfl, rfl, trivial⟩ (hr_53 x1 (((gI h 60 0 ((gI h 12 0 29) + x1)) - 97) + 1) (bshl (gI h 12 0 31) 5) h hL hF)
set_option maxHeartbeats 4000000 in
set_option maxRecDepth 100000 in
theorem t_X12_name_2 (E : xE) (d : Nat) (rec : Rk) (r : Int × Hp) (hr_7 : ∀ (x1 : Int) (h : Hp), Lay h → rec 1 [x1] h = some r → X E mX12_name (d + 1) (0, 0) (0, 0) 7 [some (xr 12 0), some (xi x1)] [] h (PoV r)) (x1 y0 y1 : Int) (h : Hp) (hL : Lay h) (hF : b_X12_name_2 rec x1 y0 y1 h = some r) : X E mX12_name (d + 1) (0, 0) (0, 0) 53 [some (xr 12 0), some (xi x1)] [xi y0, xi y1, xr 12 0] h (PoV r) := by
  unfold b_X12_name_2 at hF
  refine x_ior (b := 54) dX12_name_53 rfl ?_
  refine x_putI (b := 57) fk_X12_223 dX12_name_54 rfl rfl 31 rfl ?_
  obtain ⟨h1, e_h1, hF⟩ := lt_e hF
  refine x_hp (h2 := h1) e_h1 ?_
  replace hL : Lay h1 := by rw [← e_h1]; exact hL
  obtain ⟨hs, hF⟩ := ck_e hF
  refine x_iinc (i := 1) (b := 60) (ls2 := [some (xr 12 0), some (xi (x1 + 1))]) dX12_name_57 rfl (Nat.le_of_ble_eq_true rfl) hs rfl rfl ?_
  refine x_goto (tgt := 7) dX12_name_60 (by decide) ?_
  exact x_dp (ls2 := [some (xr 12 0), some (xi (x1 + 1))]) ⟨rfl, rfl, trivial⟩ (hr_7 (x1 + 1) h1 hL hF)
set_option maxHeartbeats 4000000 in
set_option maxRecDepth 100000 in
theorem u_X12_name (E : xE) (d : Nat) (r : Int × Hp) : ∀ n : Nat, (∀ (h : Hp), Lay h → g_X12_name n 0 [] h = some r → X E mX12_name (d + 1) (0, 0) (0, 0) 0 [some (xr 12 0), none] [] h (PoV r)) ∧ (∀ (x1 : Int) (h : Hp), Lay h → g_X12_name n 1 [x1] h = some r → X E mX12_name (d + 1) (0, 0) (0, 0) 7 [some (xr 12 0), some (xi x1)] [] h (PoV r)) ∧ (∀ (x1 y0 y1 : Int) (h : Hp), Lay h → g_X12_name n 2 [x1, y0, y1] h = some r → X E mX12_name (d + 1) (0, 0) (0, 0) 53 [some (xr 12 0), some (xi x1)] [xi y0, xi y1, xr 12 0] h (PoV r)) := by
  intro n
  induction n with
  | zero => exact ⟨fun _ _ hF => no_e (r := r) hF, fun _ _ _ hF => no_e (r := r) hF, fun _ _ _ _ _ hF => no_e (r := r) hF⟩
  | succ n ih => exact ⟨fun h hL hF => t_X12_name_0 E d (g_X12_name n) r ih.2.1  h hL hF, fun x1 h hL hF => t_X12_name_1 E d (g_X12_name n) r ih.2.2 x1 h hL hF, fun x1 y0 y1 h hL hF => t_X12_name_2 E d (g_X12_name n) r ih.2.1 x1 y0 y1 h hL hF⟩
theorem c_X12_name (d : Nat) (h : Hp) (r : Int × Hp) (hL : Lay h) (hF : f_X12_name  h = some r) : Sp mX12_name (d + 1) (0, 0) [xr 12 0] h (PoV r) :=
  sp_of (by decide) rfl (Nat.le_of_ble_eq_true rfl) (ls := [some (xr 12 0), none]) rfl (fun E _ => (u_X12_name E d r FU).1  h hL hF)
theorem dX12_nearest_0 : decode cX12_nearest 0 = .ok (.iconst (-1), 1) := by decide +kernel
theorem dX12_nearest_1 : decode cX12_nearest 1 = .ok (.istore_n 3, 1) := by decide +kernel
theorem dX12_nearest_2 : decode cX12_nearest 2 = .ok (.bipush 99, 2) := by decide +kernel
theorem dX12_nearest_4 : decode cX12_nearest 4 = .ok (.istore 4, 2) := by decide +kernel
theorem dX12_nearest_6 : decode cX12_nearest 6 = .ok (.iconst 0, 1) := by decide +kernel
theorem dX12_nearest_7 : decode cX12_nearest 7 = .ok (.istore 5, 2) := by decide +kernel
theorem dX12_nearest_9 : decode cX12_nearest 9 = .ok (.iload 5, 2) := by decide +kernel
theorem dX12_nearest_11 : decode cX12_nearest 11 = .ok (.iconst 4, 1) := by decide +kernel
theorem dX12_nearest_12 : decode cX12_nearest 12 = .ok (.if_icmp .ge 76, 3) := by decide +kernel
theorem dX12_nearest_15 : decode cX12_nearest 15 = .ok (.aload_n 0, 1) := by decide +kernel
theorem dX12_nearest_16 : decode cX12_nearest 16 = .ok (.aload_n 0, 1) := by decide +kernel
theorem dX12_nearest_17 : decode cX12_nearest 17 = .ok (.getfield 90, 3) := by decide +kernel
theorem dX12_nearest_20 : decode cX12_nearest 20 = .ok (.iload_n 1, 1) := by decide +kernel
theorem dX12_nearest_21 : decode cX12_nearest 21 = .ok (.iaload, 1) := by decide +kernel
theorem dX12_nearest_22 : decode cX12_nearest 22 = .ok (.iload 5, 2) := by decide +kernel
theorem dX12_nearest_24 : decode cX12_nearest 24 = .ok (.invokevirtual 377, 3) := by decide +kernel
theorem dX12_nearest_27 : decode cX12_nearest 27 = .ok (.istore 6, 2) := by decide +kernel
theorem dX12_nearest_29 : decode cX12_nearest 29 = .ok (.iload 6, 2) := by decide +kernel
theorem dX12_nearest_31 : decode cX12_nearest 31 = .ok (.iconst (-1), 1) := by decide +kernel
theorem dX12_nearest_32 : decode cX12_nearest 32 = .ok (.if_icmp .eq 50, 3) := by decide +kernel
theorem dX12_nearest_35 : decode cX12_nearest 35 = .ok (.aload_n 0, 1) := by decide +kernel
theorem dX12_nearest_36 : decode cX12_nearest 36 = .ok (.getfield 16, 3) := by decide +kernel
theorem dX12_nearest_39 : decode cX12_nearest 39 = .ok (.iload 6, 2) := by decide +kernel
theorem dX12_nearest_41 : decode cX12_nearest 41 = .ok (.baload, 1) := by decide +kernel
theorem dX12_nearest_42 : decode cX12_nearest 42 = .ok (.ifCond .ne 40, 3) := by decide +kernel
theorem dX12_nearest_45 : decode cX12_nearest 45 = .ok (.aload_n 0, 1) := by decide +kernel
theorem dX12_nearest_46 : decode cX12_nearest 46 = .ok (.getfield 84, 3) := by decide +kernel
theorem dX12_nearest_49 : decode cX12_nearest 49 = .ok (.bipush 64, 2) := by decide +kernel
theorem dX12_nearest_51 : decode cX12_nearest 51 = .ok (.iload_n 2, 1) := by decide +kernel
theorem dX12_nearest_52 : decode cX12_nearest 52 = .ok (.imul, 1) := by decide +kernel
theorem dX12_nearest_53 : decode cX12_nearest 53 = .ok (.iload 6, 2) := by decide +kernel
theorem dX12_nearest_55 : decode cX12_nearest 55 = .ok (.iadd, 1) := by decide +kernel
theorem dX12_nearest_56 : decode cX12_nearest 56 = .ok (.iaload, 1) := by decide +kernel
theorem dX12_nearest_57 : decode cX12_nearest 57 = .ok (.iload 4, 2) := by decide +kernel
theorem dX12_nearest_59 : decode cX12_nearest 59 = .ok (.if_icmp .lt 6, 3) := by decide +kernel
theorem dX12_nearest_62 : decode cX12_nearest 62 = .ok (.goto 20, 3) := by decide +kernel
theorem dX12_nearest_65 : decode cX12_nearest 65 = .ok (.iload 5, 2) := by decide +kernel
theorem dX12_nearest_67 : decode cX12_nearest 67 = .ok (.istore_n 3, 1) := by decide +kernel
theorem dX12_nearest_68 : decode cX12_nearest 68 = .ok (.aload_n 0, 1) := by decide +kernel
theorem dX12_nearest_69 : decode cX12_nearest 69 = .ok (.getfield 84, 3) := by decide +kernel
theorem dX12_nearest_72 : decode cX12_nearest 72 = .ok (.bipush 64, 2) := by decide +kernel
theorem dX12_nearest_74 : decode cX12_nearest 74 = .ok (.iload_n 2, 1) := by decide +kernel
theorem dX12_nearest_75 : decode cX12_nearest 75 = .ok (.imul, 1) := by decide +kernel
theorem dX12_nearest_76 : decode cX12_nearest 76 = .ok (.iload 6, 2) := by decide +kernel
theorem dX12_nearest_78 : decode cX12_nearest 78 = .ok (.iadd, 1) := by decide +kernel
theorem dX12_nearest_79 : decode cX12_nearest 79 = .ok (.iaload, 1) := by decide +kernel
theorem dX12_nearest_80 : decode cX12_nearest 80 = .ok (.istore 4, 2) := by decide +kernel
theorem dX12_nearest_82 : decode cX12_nearest 82 = .ok (.iinc 5 1, 3) := by decide +kernel
theorem dX12_nearest_85 : decode cX12_nearest 85 = .ok (.goto (-76), 3) := by decide +kernel
theorem dX12_nearest_88 : decode cX12_nearest 88 = .ok (.iload_n 3, 1) := by decide +kernel
theorem dX12_nearest_89 : decode cX12_nearest 89 = .ok (.ireturn, 1) := by decide +kernel
noncomputable def b_X12_nearest_0 (rec : Rk) (x1 x2 : Int) (h : Hp) : Option (Int × Hp) :=
  rec 1 [x1, x2, (-1), 99, 0] h
noncomputable def b_X12_nearest_1 (rec : Rk) (x1 x2 x3 x4 x5 : Int) (h : Hp) : Option (Int × Hp) :=
  if 4 ≤ x5 then (
    some (x3, h)
  ) else (
    ck (0 ≤ x1 ∧ x1 < 23) <|
    bd (f_X12_leads (gI h 85 0 x1) x5 h) fun v1 h2 =>
    if v1 = (-1) then (
      rec 2 [x1, x2, x3, x4, x5] h2
    ) else (
      ck (0 ≤ v1 ∧ v1 < 128) <|
      if (gI h2 62 0 v1) = 0 then (
        ck (-2147483648 ≤ 64 * x2 ∧ 64 * x2 < 2147483648) <|
        ck (-2147483648 ≤ (64 * x2) + v1 ∧ (64 * x2) + v1 < 2147483648) <|
        ck (0 ≤ ((64 * x2) + v1) ∧ ((64 * x2) + v1) < 4096) <|
        if (gI h2 83 0 ((64 * x2) + v1)) < x4 then (
          ck (-2147483648 ≤ 64 * x2 ∧ 64 * x2 < 2147483648) <|
          ck (-2147483648 ≤ (64 * x2) + v1 ∧ (64 * x2) + v1 < 2147483648) <|
          ck (0 ≤ ((64 * x2) + v1) ∧ ((64 * x2) + v1) < 4096) <|
          lt (gI h2 83 0 ((64 * x2) + v1)) fun z3 =>
          rec 2 [x1, x2, x5, z3, x5] h2
        ) else (
          rec 2 [x1, x2, x3, x4, x5] h2
        )
      ) else (
        rec 2 [x1, x2, x3, x4, x5] h2
      )
    )
  )
noncomputable def b_X12_nearest_2 (rec : Rk) (x1 x2 x3 x4 x5 : Int) (h : Hp) : Option (Int × Hp) :=
  ck (-2147483648 ≤ x5 + 1 ∧ x5 + 1 < 2147483648) <|
  rec 1 [x1, x2, x3, x4, x5 + 1] h
noncomputable def g_X12_nearest (n : Nat) : Rk := Nat.rec (motive := fun _ => Rk) (fun _ _ _ => none) (fun _ rec k l h => if k = 0 then b_X12_nearest_0 rec (l.getD 0 0) (l.getD 1 0) h else if k = 1 then b_X12_nearest_1 rec (l.getD 0 0) (l.getD 1 0) (l.getD 2 0) (l.getD 3 0) (l.getD 4 0) h else if k = 2 then b_X12_nearest_2 rec (l.getD 0 0) (l.getD 1 0) (l.getD 2 0) (l.getD 3 0) (l.getD 4 0) h else none) n
noncomputable def f_X12_nearest (x1 x2 : Int) (h : Hp) : Option (Int × Hp) := g_X12_nearest FU 0 [x1, x2] h
set_option maxHeartbeats 4000000 in
set_option maxRecDepth 100000 in
theorem t_X12_nearest_0 (E : xE) (d : Nat) (rec : Rk) (r : Int × Hp) (hr_9 : ∀ (x1 x2 x3 x4 x5 : Int) (h : Hp), Lay h → rec 1 [x1, x2, x3, x4, x5] h = some r → X E mX12_nearest (d + 2) (0, 0) (0, 0) 9 [some (xr 12 0), some (xi x1), some (xi x2), some (xi x3), some (xi x4), some (xi x5), none] [] h (PoI r)) (x1 x2 : Int) (h : Hp) (hL : Lay h) (hF : b_X12_nearest_0 rec x1 x2 h = some r) : X E mX12_nearest (d + 2) (0, 0) (0, 0) 0 [some (xr 12 0), some (xi x1), some (xi x2), none, none, none, none] [] h (PoI r) := by
  unfold b_X12_nearest_0 at hF
  refine x_iconst (n := (-1)) (b := 1) dX12_nearest_0 (by decide) rfl ?_
  refine x_istore_n (i := 3) (b := 2) (ls2 := [some (xr 12 0), some (xi x1), some (xi x2), some (xi (-1)), none, none, none]) dX12_nearest_1 rfl (Nat.le_of_ble_eq_true rfl) rfl rfl ?_
  refine x_bipush (n := 99) (b := 4) dX12_nearest_2 (by decide) rfl ?_
  refine x_istore (i := 4) (b := 6) (ls2 := [some (xr 12 0), some (xi x1), some (xi x2), some (xi (-1)), some (xi 99), none, none]) dX12_nearest_4 (Nat.le_of_ble_eq_true rfl) rfl rfl ?_
  refine x_iconst (n := 0) (b := 7) dX12_nearest_6 (by decide) rfl ?_
  refine x_istore (i := 5) (b := 9) (ls2 := [some (xr 12 0), some (xi x1), some (xi x2), some (xi (-1)), some (xi 99), some (xi 0), none]) dX12_nearest_7 (Nat.le_of_ble_eq_true rfl) rfl rfl ?_
  exact x_dp (ls2 := [some (xr 12 0), some (xi x1), some (xi x2), some (xi (-1)), some (xi 99), some (xi 0), none]) ⟨rfl, rfl, rfl, rfl, rfl, rfl, trivial⟩ (hr_9 x1 x2 (-1) 99 0 h hL hF)
set_option maxHeartbeats 4000000 in
set_option maxRecDepth 100000 in
theorem t_X12_nearest_1 (E : xE) (d : Nat) (rec : Rk) (r : Int × Hp) (hr_82 : ∀ (x1 x2 x3 x4 x5 : Int) (h : Hp), Lay h → rec 2 [x1, x2, x3, x4, x5] h = some r → X E mX12_nearest (d + 2) (0, 0) (0, 0) 82 [some (xr 12 0), some (xi x1), some (xi x2), some (xi x3), some (xi x4), some (xi x5), none] [] h (PoI r)) (x1 x2 x3 x4 x5 : Int) (h : Hp) (hL : Lay h) (hF : b_X12_nearest_1 rec x1 x2 x3 x4 x5 h = some r) : X E mX12_nearest (d + 2) (0, 0) (0, 0) 9 [some (xr 12 0), some (xi x1), some (xi x2), some (xi x3), some (xi x4), some (xi x5), none] [] h (PoI r) := by
  unfold b_X12_nearest_1 at hF
  refine x_iload (i := 5) (b := 11) dX12_nearest_9 rfl rfl ?_
  refine x_iconst (n := 4) (b := 12) dX12_nearest_11 (by decide) rfl ?_
  refine x_icmp_ge (tgt := 88) (b := 15) dX12_nearest_12 (by decide) rfl (fun hc => ?_) (fun hc => ?_)
  · replace hF := br_T hc hF
    refine x_iload_n (i := 3) (b := 89) dX12_nearest_88 rfl rfl rfl ?_
    refine x_ireturn dX12_nearest_89 rfl ⟨Nat.le_refl _, Nat.le_refl _⟩ ?_
    cases hF
    exact ⟨rfl, rfl, hL⟩
  · replace hF := br_F hc hF
    refine x_aload_n (i := 0) (b := 16) dX12_nearest_15 rfl rfl rfl ?_
    refine x_aload_n (i := 0) (b := 17) dX12_nearest_16 rfl rfl rfl ?_
    refine x_getL (j := 0) (t := (85, 0, true)) (b := 20) fk_X12_90 dX12_nearest_17 rfl hL rfl rfl rfl ?_
    refine x_iload_n (i := 1) (b := 21) dX12_nearest_20 rfl rfl rfl ?_
    obtain ⟨hs, hF⟩ := ck_e hF
    refine x_iald (v := gI h 85 0 x1) (b := 22) ak_85 dX12_nearest_21 hs rfl rfl ?_
    refine x_iload (i := 5) (b := 24) dX12_nearest_22 rfl rfl ?_
    obtain ⟨v1, h2, hq, hF⟩ := bd_e hF
    refine x_callV (as := [xi (gI h 85 0 x1), xi x5]) (rest := []) (b := 27) (c_X12_leads d (gI h 85 0 x1) x5 h _ hL hq) dX12_nearest_24 cw_X12_377 ⟨_, _, rfl, Nat.le_of_ble_eq_true rfl⟩ rfl rfl (Nat.le_of_ble_eq_true rfl) ⟨Nat.le_refl _, Nat.le_refl _⟩ rfl (fun rv hh hp _ => ?_)
    obtain ⟨rfl, rfl, hL⟩ := hp
    refine x_istore (i := 6) (b := 29) (ls2 := [some (xr 12 0), some (xi x1), some (xi x2), some (xi x3), some (xi x4), some (xi x5), some (xi v1)]) dX12_nearest_27 (Nat.le_of_ble_eq_true rfl) rfl rfl ?_
    refine x_iload (i := 6) (b := 31) dX12_nearest_29 rfl rfl ?_
    refine x_iconst (n := (-1)) (b := 32) dX12_nearest_31 (by decide) rfl ?_
    refine x_icmp_eq (tgt := 82) (b := 35) dX12_nearest_32 (by decide) rfl (fun hc => ?_) (fun hc => ?_)
    · replace hF := br_T hc hF
      exact x_dp (ls2 := [some (xr 12 0), some (xi x1), some (xi x2), some (xi x3), some (xi x4), some (xi x5), none]) ⟨rfl, rfl, rfl, rfl, rfl, rfl, trivial⟩ (hr_82 x1 x2 x3 x4 x5 h2 hL hF)
    · replace hF := br_F hc hF
      refine x_aload_n (i := 0) (b := 36) dX12_nearest_35 rfl rfl rfl ?_
      refine x_getL (j := 0) (t := (62, 0, true)) (b := 39) fk_X12_16 dX12_nearest_36 rfl hL rfl rfl rfl ?_
      refine x_iload (i := 6) (b := 41) dX12_nearest_39 rfl rfl ?_
      obtain ⟨hs, hF⟩ := ck_e hF
      refine x_zald (v := gI h2 62 0 v1) (b := 42) ak_62 dX12_nearest_41 hs rfl rfl ?_
      refine x_if_ne (tgt := 82) (b := 45) dX12_nearest_42 (by decide) rfl (fun hc => ?_) (fun hc => ?_)
      · replace hF := br_F hc hF
        exact x_dp (ls2 := [some (xr 12 0), some (xi x1), some (xi x2), some (xi x3), some (xi x4), some (xi x5), none]) ⟨rfl, rfl, rfl, rfl, rfl, rfl, trivial⟩ (hr_82 x1 x2 x3 x4 x5 h2 hL hF)
      · replace hF := br_T hc hF
        refine x_aload_n (i := 0) (b := 46) dX12_nearest_45 rfl rfl rfl ?_
        refine x_getL (j := 0) (t := (83, 0, true)) (b := 49) fk_X12_84 dX12_nearest_46 rfl hL rfl rfl rfl ?_
        refine x_bipush (n := 64) (b := 51) dX12_nearest_49 (by decide) rfl ?_
        refine x_iload_n (i := 2) (b := 52) dX12_nearest_51 rfl rfl rfl ?_
        obtain ⟨hs, hF⟩ := ck_e hF
        refine x_imul (b := 53) dX12_nearest_52 hs rfl ?_
        refine x_iload (i := 6) (b := 55) dX12_nearest_53 rfl rfl ?_
        obtain ⟨hs, hF⟩ := ck_e hF
        refine x_iadd (b := 56) dX12_nearest_55 hs rfl ?_
        obtain ⟨hs, hF⟩ := ck_e hF
        refine x_iald (v := gI h2 83 0 ((64 * x2) + v1)) (b := 57) ak_83 dX12_nearest_56 hs rfl rfl ?_
        refine x_iload (i := 4) (b := 59) dX12_nearest_57 rfl rfl ?_
        refine x_icmp_lt (tgt := 65) (b := 62) dX12_nearest_59 (by decide) rfl (fun hc => ?_) (fun hc => ?_)
        · replace hF := br_T hc hF
          refine x_iload (i := 5) (b := 67) dX12_nearest_65 rfl rfl ?_
          refine x_istore_n (i := 3) (b := 68) (ls2 := [some (xr 12 0), some (xi x1), some (xi x2), some (xi x5), some (xi x4), some (xi x5), some (xi v1)]) dX12_nearest_67 rfl (Nat.le_of_ble_eq_true rfl) rfl rfl ?_
          refine x_aload_n (i := 0) (b := 69) dX12_nearest_68 rfl rfl rfl ?_
          refine x_getL (j := 0) (t := (83, 0, true)) (b := 72) fk_X12_84 dX12_nearest_69 rfl hL rfl rfl rfl ?_
          refine x_bipush (n := 64) (b := 74) dX12_nearest_72 (by decide) rfl ?_
          refine x_iload_n (i := 2) (b := 75) dX12_nearest_74 rfl rfl rfl ?_
          obtain ⟨hs, hF⟩ := ck_e hF
          refine x_imul (b := 76) dX12_nearest_75 hs rfl ?_
          refine x_iload (i := 6) (b := 78) dX12_nearest_76 rfl rfl ?_
          obtain ⟨hs, hF⟩ := ck_e hF
          refine x_iadd (b := 79) dX12_nearest_78 hs rfl ?_
          obtain ⟨hs, hF⟩ := ck_e hF
          refine x_iald (v := gI h2 83 0 ((64 * x2) + v1)) (b := 80) ak_83 dX12_nearest_79 hs rfl rfl ?_
          obtain ⟨z3, e_z3, hF⟩ := lt_e hF
          refine x_eq (y := z3) e_z3 ?_
          refine x_istore (i := 4) (b := 82) (ls2 := [some (xr 12 0), some (xi x1), some (xi x2), some (xi x5), some (xi z3), some (xi x5), some (xi v1)]) dX12_nearest_80 (Nat.le_of_ble_eq_true rfl) rfl rfl ?_
          exact x_dp (ls2 := [some (xr 12 0), some (xi x1), some (xi x2), some (xi x5), some (xi z3), some (xi x5), none]) ⟨rfl, rfl, rfl, rfl, rfl, rfl, trivial⟩ (hr_82 x1 x2 x5 z3 x5 h2 hL hF)
        · replace hF := br_F hc hF
          refine x_goto (tgt := 82) dX12_nearest_62 (by decide) ?_
          exact x_dp (ls2 := [some (xr 12 0), some (xi x1), some (xi x2), some (xi x3), some (xi x4), some (xi x5), none]) ⟨rfl, rfl, rfl, rfl, rfl, rfl, trivial⟩ (hr_82 x1 x2 x3 x4 x5 h2 hL hF)
set_option maxHeartbeats 4000000 in
set_option maxRecDepth 100000 in
theorem t_X12_nearest_2 (E : xE) (d : Nat) (rec : Rk) (r : Int × Hp) (hr_9 : ∀ (x1 x2 x3 x4 x5 : Int) (h : Hp), Lay h → rec 1 [x1, x2, x3, x4, x5] h = some r → X E mX12_nearest (d + 2) (0, 0) (0, 0) 9 [some (xr 12 0), some (xi x1), some (xi x2), some (xi x3), some (xi x4), some (xi x5), none] [] h (PoI r)) (x1 x2 x3 x4 x5 : Int) (h : Hp) (hL : Lay h) (hF : b_X12_nearest_2 rec x1 x2 x3 x4 x5 h = some r) : X E mX12_nearest (d + 2) (0, 0) (0, 0) 82 [some (xr 12 0), some (xi x1), some (xi x2), some (xi x3), some (xi x4), some (xi x5), none] [] h (PoI r) := by
  unfold b_X12_nearest_2 at hF
  obtain ⟨hs, hF⟩ := ck_e hF
  refine x_iinc (i := 5) (b := 85) (ls2 := [some (xr 12 0), some (xi x1), some (xi x2), some (xi x3), some (xi x4), some (xi (x5 + 1)), none]) dX12_nearest_82 rfl (Nat.le_of_ble_eq_true rfl) hs rfl rfl ?_
  refine x_goto (tgt := 9) dX12_nearest_85 (by decide) ?_
  exact x_dp (ls2 := [some (xr 12 0), some (xi x1), some (xi x2), some (xi x3), some (xi x4), some (xi (x5 + 1)), none]) ⟨rfl, rfl, rfl, rfl, rfl, rfl, trivial⟩ (hr_9 x1 x2 x3 x4 (x5 + 1) h hL hF)
set_option maxHeartbeats 4000000 in
set_option maxRecDepth 100000 in
theorem u_X12_nearest (E : xE) (d : Nat) (r : Int × Hp) : ∀ n : Nat, (∀ (x1 x2 : Int) (h : Hp), Lay h → g_X12_nearest n 0 [x1, x2] h = some r → X E mX12_nearest (d + 2) (0, 0) (0, 0) 0 [some (xr 12 0), some (xi x1), some (xi x2), none, none, none, none] [] h (PoI r)) ∧ (∀ (x1 x2 x3 x4 x5 : Int) (h : Hp), Lay h → g_X12_nearest n 1 [x1, x2, x3, x4, x5] h = some r → X E mX12_nearest (d + 2) (0, 0) (0, 0) 9 [some (xr 12 0), some (xi x1), some (xi x2), some (xi x3), some (xi x4), some (xi x5), none] [] h (PoI r)) ∧ (∀ (x1 x2 x3 x4 x5 : Int) (h : Hp), Lay h → g_X12_nearest n 2 [x1, x2, x3, x4, x5] h = some r → X E mX12_nearest (d + 2) (0, 0) (0, 0) 82 [some (xr 12 0), some (xi x1), some (xi x2), some (xi x3), some (xi x4), some (xi x5), none] [] h (PoI r)) := by
  intro n
  induction n with
  | zero => exact ⟨fun _ _ _ _ hF => no_e (r := r) hF, fun _ _ _ _ _ _ _ hF => no_e (r := r) hF, fun _ _ _ _ _ _ _ hF => no_e (r := r) hF⟩
  | succ n ih => exact ⟨fun x1 x2 h hL hF => t_X12_nearest_0 E d (g_X12_nearest n) r ih.2.1 x1 x2 h hL hF, fun x1 x2 x3 x4 x5 h hL hF => t_X12_nearest_1 E d (g_X12_nearest n) r ih.2.2 x1 x2 x3 x4 x5 h hL hF, fun x1 x2 x3 x4 x5 h hL hF => t_X12_nearest_2 E d (g_X12_nearest n) r ih.2.1 x1 x2 x3 x4 x5 h hL hF⟩
theorem c_X12_nearest (d : Nat) (x1 x2 : Int) (h : Hp) (r : Int × Hp) (hL : Lay h) (hF : f_X12_nearest x1 x2 h = some r) : Sp mX12_nearest (d + 2) (0, 0) [xr 12 0, xi x1, xi x2] h (PoI r) :=
  sp_of (by decide) rfl (Nat.le_of_ble_eq_true rfl) (ls := [some (xr 12 0), some (xi x1), some (xi x2), none, none, none, none]) rfl (fun E _ => (u_X12_nearest E d r FU).1 x1 x2 h hL hF)
theorem dX12_plain_0 : decode cX12_plain 0 = .ok (.aload_n 0, 1) := by decide +kernel
theorem dX12_plain_1 : decode cX12_plain 1 = .ok (.iconst (-1), 1) := by decide +kernel
theorem dX12_plain_2 : decode cX12_plain 2 = .ok (.putfield 129, 3) := by decide +kernel
theorem dX12_plain_5 : decode cX12_plain 5 = .ok (.aload_n 0, 1) := by decide +kernel
theorem dX12_plain_6 : decode cX12_plain 6 = .ok (.iconst (-1), 1) := by decide +kernel
theorem dX12_plain_7 : decode cX12_plain 7 = .ok (.putfield 132, 3) := by decide +kernel
theorem dX12_plain_10 : decode cX12_plain 10 = .ok (.aload_n 0, 1) := by decide +kernel
theorem dX12_plain_11 : decode cX12_plain 11 = .ok (.iconst 0, 1) := by decide +kernel
theorem dX12_plain_12 : decode cX12_plain 12 = .ok (.putfield 383, 3) := by decide +kernel
theorem dX12_plain_15 : decode cX12_plain 15 = .ok (.return_, 1) := by decide +kernel
noncomputable def b_X12_plain_0 (rec : Rk) (h : Hp) : Option (Int × Hp) :=
  lt (sI h 12 0 55 (-1)) fun h1 =>
  lt (sI h1 12 0 56 (-1)) fun h2 =>
  lt (sI h2 12 0 57 0) fun h3 =>
  some (0, h3)
noncomputable def g_X12_plain (n : Nat) : Rk := Nat.rec (motive := fun _ => Rk) (fun _ _ _ => none) (fun _ rec k l h => if k = 0 then b_X12_plain_0 rec  h else none) n
noncomputable def f_X12_plain (h : Hp) : Option (Int × Hp) := g_X12_plain FU 0 [] h
set_option maxHeartbeats 4000000 in
set_option maxRecDepth 100000 in
theorem t_X12_plain_0 (E : xE) (d : Nat) (rec : Rk) (r : Int × Hp) (h : Hp) (hL : Lay h) (hF : b_X12_plain_0 rec  h = some r) : X E mX12_plain (d + 1) (0, 0) (0, 0) 0 [some (xr 12 0)] [] h (PoV r) := by
  unfold b_X12_plain_0 at hF
  refine x_aload_n (i := 0) (b := 1) dX12_plain_0 rfl rfl rfl ?_
  refine x_iconst (n := (-1)) (b := 2) dX12_plain_1 (by decide) rfl ?_
  refine x_putI (b := 5) fk_X12_129 dX12_plain_2 rfl rfl 55 rfl ?_
  obtain ⟨h1, e_h1, hF⟩ := lt_e hF
  refine x_hp (h2 := h1) e_h1 ?_
  replace hL : Lay h1 := by rw [← e_h1]; exact hL
  refine x_aload_n (i := 0) (b := 6) dX12_plain_5 rfl rfl rfl ?_
  refine x_iconst (n := (-1)) (b := 7) dX12_plain_6 (by decide) rfl ?_
  refine x_putI (b := 10) fk_X12_132 dX12_plain_7 rfl rfl 56 rfl ?_
  obtain ⟨h2, e_h2, hF⟩ := lt_e hF
  refine x_hp (h2 := h2) e_h2 ?_
  replace hL : Lay h2 := by rw [← e_h2]; exact hL
  refine x_aload_n (i := 0) (b := 11) dX12_plain_10 rfl rfl rfl ?_
  refine x_iconst (n := 0) (b := 12) dX12_plain_11 (by decide) rfl ?_
  refine x_putZ (b := 15) fk_X12_383 dX12_plain_12 rfl (by decide) rfl 57 rfl ?_
  obtain ⟨h3, e_h3, hF⟩ := lt_e hF
  refine x_hp (h2 := h3) e_h3 ?_
  replace hL : Lay h3 := by rw [← e_h3]; exact hL
  refine x_return dX12_plain_15 rfl ⟨Nat.le_refl _, Nat.le_refl _⟩ ?_
  cases hF
  exact ⟨rfl, rfl, hL⟩
set_option maxHeartbeats 4000000 in
set_option maxRecDepth 100000 in
theorem u_X12_plain (E : xE) (d : Nat) (r : Int × Hp) : ∀ n : Nat, (∀ (h : Hp), Lay h → g_X12_plain n 0 [] h = some r → X E mX12_plain (d + 1) (0, 0) (0, 0) 0 [some (xr 12 0)] [] h (PoV r)) := by
  intro n
  induction n with
  | zero => exact fun _ _ hF => no_e (r := r) hF
  | succ n ih => exact fun h hL hF => t_X12_plain_0 E d (g_X12_plain n) r   h hL hF
theorem c_X12_plain (d : Nat) (h : Hp) (r : Int × Hp) (hL : Lay h) (hF : f_X12_plain  h = some r) : Sp mX12_plain (d + 1) (0, 0) [xr 12 0] h (PoV r) :=
  sp_of (by decide) rfl (Nat.le_of_ble_eq_true rfl) (ls := [some (xr 12 0)]) rfl (fun E _ => (u_X12_plain E d r FU)  h hL hF)
theorem dX12_platesOf_0 : decode cX12_platesOf 0 = .ok (.aload_n 0, 1) := by decide +kernel
theorem dX12_platesOf_1 : decode cX12_platesOf 1 = .ok (.getfield 129, 3) := by decide +kernel
theorem dX12_platesOf_4 : decode cX12_platesOf 4 = .ok (.ifCond .eq 37, 3) := by decide +kernel
theorem dX12_platesOf_7 : decode cX12_platesOf 7 = .ok (.aload_n 0, 1) := by decide +kernel
theorem dX12_platesOf_8 : decode cX12_platesOf 8 = .ok (.getfield 87, 3) := by decide +kernel
theorem dX12_platesOf_11 : decode cX12_platesOf 11 = .ok (.iload_n 1, 1) := by decide +kernel
theorem dX12_platesOf_12 : decode cX12_platesOf 12 = .ok (.iaload, 1) := by decide +kernel
theorem dX12_platesOf_13 : decode cX12_platesOf 13 = .ok (.aload_n 0, 1) := by decide +kernel
theorem dX12_platesOf_14 : decode cX12_platesOf 14 = .ok (.getfield 56, 3) := by decide +kernel
theorem dX12_platesOf_17 : decode cX12_platesOf 17 = .ok (.iload_n 2, 1) := by decide +kernel
theorem dX12_platesOf_18 : decode cX12_platesOf 18 = .ok (.iaload, 1) := by decide +kernel
theorem dX12_platesOf_19 : decode cX12_platesOf 19 = .ok (.if_icmp .lt 22, 3) := by decide +kernel
theorem dX12_platesOf_22 : decode cX12_platesOf 22 = .ok (.aload_n 0, 1) := by decide +kernel
theorem dX12_platesOf_23 : decode cX12_platesOf 23 = .ok (.getfield 87, 3) := by decide +kernel
theorem dX12_platesOf_26 : decode cX12_platesOf 26 = .ok (.iload_n 1, 1) := by decide +kernel
theorem dX12_platesOf_27 : decode cX12_platesOf 27 = .ok (.iaload, 1) := by decide +kernel
theorem dX12_platesOf_28 : decode cX12_platesOf 28 = .ok (.aload_n 0, 1) := by decide +kernel
theorem dX12_platesOf_29 : decode cX12_platesOf 29 = .ok (.getfield 59, 3) := by decide +kernel
theorem dX12_platesOf_32 : decode cX12_platesOf 32 = .ok (.iload_n 2, 1) := by decide +kernel
theorem dX12_platesOf_33 : decode cX12_platesOf 33 = .ok (.iaload, 1) := by decide +kernel
theorem dX12_platesOf_34 : decode cX12_platesOf 34 = .ok (.if_icmp .gt 7, 3) := by decide +kernel
theorem dX12_platesOf_37 : decode cX12_platesOf 37 = .ok (.iconst 0, 1) := by decide +kernel
theorem dX12_platesOf_38 : decode cX12_platesOf 38 = .ok (.goto 9, 3) := by decide +kernel
theorem dX12_platesOf_41 : decode cX12_platesOf 41 = .ok (.aload_n 0, 1) := by decide +kernel
theorem dX12_platesOf_42 : decode cX12_platesOf 42 = .ok (.getfield 47, 3) := by decide +kernel
theorem dX12_platesOf_45 : decode cX12_platesOf 45 = .ok (.iload_n 2, 1) := by decide +kernel
theorem dX12_platesOf_46 : decode cX12_platesOf 46 = .ok (.iaload, 1) := by decide +kernel
theorem dX12_platesOf_47 : decode cX12_platesOf 47 = .ok (.ireturn, 1) := by decide +kernel
noncomputable def b_X12_platesOf_0 (rec : Rk) (x1 x2 : Int) (h : Hp) : Option (Int × Hp) :=
  if (gI h 12 0 55) = 0 then (
    rec 1 [x2] h
  ) else (
    ck (0 ≤ x1 ∧ x1 < 23) <|
    ck (0 ≤ x2 ∧ x2 < 18) <|
    if (gI h 84 0 x1) < (gI h 75 0 x2) then (
      rec 1 [x2] h
    ) else (
      ck (0 ≤ x1 ∧ x1 < 23) <|
      ck (0 ≤ x2 ∧ x2 < 18) <|
      if (gI h 76 0 x2) < (gI h 84 0 x1) then (
        rec 1 [x2] h
      ) else (
        some (0, h)
      )
    )
  )
noncomputable def b_X12_platesOf_1 (rec : Rk) (x2 : Int) (h : Hp) : Option (Int × Hp) :=
  ck (0 ≤ x2 ∧ x2 < 18) <|
  some (gI h 72 0 x2, h)
noncomputable def g_X12_platesOf (n : Nat) : Rk := Nat.rec (motive := fun _ => Rk) (fun _ _ _ => none) (fun _ rec k l h => if k = 0 then b_X12_platesOf_0 rec (l.getD 0 0) (l.getD 1 0) h else if k = 1 then b_X12_platesOf_1 rec (l.getD 0 0) h else none) n
noncomputable def f_X12_platesOf (x1 x2 : Int) (h : Hp) : Option (Int × Hp) := g_X12_platesOf FU 0 [x1, x2] h
set_option maxHeartbeats 4000000 in
set_option maxRecDepth 100000 in
theorem t_X12_platesOf_0 (E : xE) (d : Nat) (rec : Rk) (r : Int × Hp) (hr_41 : ∀ (x2 : Int) (h : Hp), Lay h → rec 1 [x2] h = some r → X E mX12_platesOf (d + 1) (0, 0) (0, 0) 41 [some (xr 12 0), none, some (xi x2)] [] h (PoI r)) (x1 x2 : Int) (h : Hp) (hL : Lay h) (hF : b_X12_platesOf_0 rec x1 x2 h = some r) : X E mX12_platesOf (d + 1) (0, 0) (0, 0) 0 [some (xr 12 0), some (xi x1), some (xi x2)] [] h (PoI r) := by
  unfold b_X12_platesOf_0 at hF
  refine x_aload_n (i := 0) (b := 1) dX12_platesOf_0 rfl rfl rfl ?_
  refine x_getI (v := gI h 12 0 55) (b := 4) fk_X12_129 dX12_platesOf_1 (by decide) rfl rfl ?_
  refine x_if_eq (tgt := 41) (b := 7) dX12_platesOf_4 (by decide) rfl (fun hc => ?_) (fun hc => ?_)
  · replace hF := br_T hc hF
    exact x_dp (ls2 := [some (xr 12 0), none, some (xi x2)]) ⟨rfl, rfl, trivial⟩ (hr_41 x2 h hL hF)
  · replace hF := br_F hc hF
    refine x_aload_n (i := 0) (b := 8) dX12_platesOf_7 rfl rfl rfl ?_
    refine x_getL (j := 0) (t := (84, 0, true)) (b := 11) fk_X12_87 dX12_platesOf_8 rfl hL rfl rfl rfl ?_
    refine x_iload_n (i := 1) (b := 12) dX12_platesOf_11 rfl rfl rfl ?_
    obtain ⟨hs, hF⟩ := ck_e hF
    refine x_iald (v := gI h 84 0 x1) (b := 13) ak_84 dX12_platesOf_12 hs rfl rfl ?_
    refine x_aload_n (i := 0) (b := 14) dX12_platesOf_13 rfl rfl rfl ?_
    refine x_getL (j := 0) (t := (75, 0, true)) (b := 17) fk_X12_56 dX12_platesOf_14 rfl hL rfl rfl rfl ?_
    refine x_iload_n (i := 2) (b := 18) dX12_platesOf_17 rfl rfl rfl ?_
    obtain ⟨hs, hF⟩ := ck_e hF
    refine x_iald (v := gI h 75 0 x2) (b := 19) ak_75 dX12_platesOf_18 hs rfl rfl ?_
    refine x_icmp_lt (tgt := 41) (b := 22) dX12_platesOf_19 (by decide) rfl (fun hc => ?_) (fun hc => ?_)
    · replace hF := br_T hc hF
      exact x_dp (ls2 := [some (xr 12 0), none, some (xi x2)]) ⟨rfl, rfl, trivial⟩ (hr_41 x2 h hL hF)
    · replace hF := br_F hc hF
      refine x_aload_n (i := 0) (b := 23) dX12_platesOf_22 rfl rfl rfl ?_
      refine x_getL (j := 0) (t := (84, 0, true)) (b := 26) fk_X12_87 dX12_platesOf_23 rfl hL rfl rfl rfl ?_
      refine x_iload_n (i := 1) (b := 27) dX12_platesOf_26 rfl rfl rfl ?_
      obtain ⟨hs, hF⟩ := ck_e hF
      refine x_iald (v := gI h 84 0 x1) (b := 28) ak_84 dX12_platesOf_27 hs rfl rfl ?_
      refine x_aload_n (i := 0) (b := 29) dX12_platesOf_28 rfl rfl rfl ?_
      refine x_getL (j := 0) (t := (76, 0, true)) (b := 32) fk_X12_59 dX12_platesOf_29 rfl hL rfl rfl rfl ?_
      refine x_iload_n (i := 2) (b := 33) dX12_platesOf_32 rfl rfl rfl ?_
      obtain ⟨hs, hF⟩ := ck_e hF
      refine x_iald (v := gI h 76 0 x2) (b := 34) ak_76 dX12_platesOf_33 hs rfl rfl ?_
      refine x_icmp_gt (tgt := 41) (b := 37) dX12_platesOf_34 (by decide) rfl (fun hc => ?_) (fun hc => ?_)
      · replace hF := br_T hc hF
        exact x_dp (ls2 := [some (xr 12 0), none, some (xi x2)]) ⟨rfl, rfl, trivial⟩ (hr_41 x2 h hL hF)
      · replace hF := br_F hc hF
        refine x_iconst (n := 0) (b := 38) dX12_platesOf_37 (by decide) rfl ?_
        refine x_goto (tgt := 47) dX12_platesOf_38 (by decide) ?_
        refine x_ireturn dX12_platesOf_47 rfl ⟨Nat.le_refl _, Nat.le_refl _⟩ ?_
        cases hF
        exact ⟨rfl, rfl, hL⟩
set_option maxHeartbeats 4000000 in
set_option maxRecDepth 100000 in
theorem t_X12_platesOf_1 (E : xE) (d : Nat) (rec : Rk) (r : Int × Hp) (x2 : Int) (h : Hp) (hL : Lay h) (hF : b_X12_platesOf_1 rec x2 h = some r) : X E mX12_platesOf (d + 1) (0, 0) (0, 0) 41 [some (xr 12 0), none, some (xi x2)] [] h (PoI r) := by
  unfold b_X12_platesOf_1 at hF
  refine x_aload_n (i := 0) (b := 42) dX12_platesOf_41 rfl rfl rfl ?_
  refine x_getL (j := 0) (t := (72, 0, true)) (b := 45) fk_X12_47 dX12_platesOf_42 rfl hL rfl rfl rfl ?_
  refine x_iload_n (i := 2) (b := 46) dX12_platesOf_45 rfl rfl rfl ?_
  obtain ⟨hs, hF⟩ := ck_e hF
  refine x_iald (v := gI h 72 0 x2) (b := 47) ak_72 dX12_platesOf_46 hs rfl rfl ?_
  refine x_ireturn dX12_platesOf_47 rfl ⟨Nat.le_refl _, Nat.le_refl _⟩ ?_
  cases hF
  exact ⟨rfl, rfl, hL⟩
set_option maxHeartbeats 4000000 in
set_option maxRecDepth 100000 in
theorem u_X12_platesOf (E : xE) (d : Nat) (r : Int × Hp) : ∀ n : Nat, (∀ (x1 x2 : Int) (h : Hp), Lay h → g_X12_platesOf n 0 [x1, x2] h = some r → X E mX12_platesOf (d + 1) (0, 0) (0, 0) 0 [some (xr 12 0), some (xi x1), some (xi x2)] [] h (PoI r)) ∧ (∀ (x2 : Int) (h : Hp), Lay h → g_X12_platesOf n 1 [x2] h = some r → X E mX12_platesOf (d + 1) (0, 0) (0, 0) 41 [some (xr 12 0), none, some (xi x2)] [] h (PoI r)) := by
  intro n
  induction n with
  | zero => exact ⟨fun _ _ _ _ hF => no_e (r := r) hF, fun _ _ _ hF => no_e (r := r) hF⟩
  | succ n ih => exact ⟨fun x1 x2 h hL hF => t_X12_platesOf_0 E d (g_X12_platesOf n) r ih.2 x1 x2 h hL hF, fun x2 h hL hF => t_X12_platesOf_1 E d (g_X12_platesOf n) r  x2 h hL hF⟩
theorem c_X12_platesOf (d : Nat) (x1 x2 : Int) (h : Hp) (r : Int × Hp) (hL : Lay h) (hF : f_X12_platesOf x1 x2 h = some r) : Sp mX12_platesOf (d + 1) (0, 0) [xr 12 0, xi x1, xi x2] h (PoI r) :=
  sp_of (by decide) rfl (Nat.le_of_ble_eq_true rfl) (ls := [some (xr 12 0), some (xi x1), some (xi x2)]) rfl (fun E _ => (u_X12_platesOf E d r FU).1 x1 x2 h hL hF)
theorem dX12_puts__0 : decode cX12_puts_ 0 = .ok (.aload_n 0, 1) := by decide +kernel
theorem dX12_puts__1 : decode cX12_puts_ 1 = .ok (.getfield 157, 3) := by decide +kernel
theorem dX12_puts__4 : decode cX12_puts_ 4 = .ok (.iload_n 1, 1) := by decide +kernel
theorem dX12_puts__5 : decode cX12_puts_ 5 = .ok (.aload_n 0, 1) := by decide +kernel
theorem dX12_puts__6 : decode cX12_puts_ 6 = .ok (.getfield 87, 3) := by decide +kernel
theorem dX12_puts__9 : decode cX12_puts_ 9 = .ok (.iconst 1, 1) := by decide +kernel
theorem dX12_puts__10 : decode cX12_puts_ 10 = .ok (.iaload, 1) := by decide +kernel
theorem dX12_puts__11 : decode cX12_puts_ 11 = .ok (.iastore, 1) := by decide +kernel
theorem dX12_puts__12 : decode cX12_puts_ 12 = .ok (.aload_n 0, 1) := by decide +kernel
theorem dX12_puts__13 : decode cX12_puts_ 13 = .ok (.getfield 160, 3) := by decide +kernel
theorem dX12_puts__16 : decode cX12_puts_ 16 = .ok (.iload_n 1, 1) := by decide +kernel
theorem dX12_puts__17 : decode cX12_puts_ 17 = .ok (.aload_n 0, 1) := by decide +kernel
theorem dX12_puts__18 : decode cX12_puts_ 18 = .ok (.getfield 90, 3) := by decide +kernel
theorem dX12_puts__21 : decode cX12_puts_ 21 = .ok (.iconst 1, 1) := by decide +kernel
theorem dX12_puts__22 : decode cX12_puts_ 22 = .ok (.iaload, 1) := by decide +kernel
theorem dX12_puts__23 : decode cX12_puts_ 23 = .ok (.iastore, 1) := by decide +kernel
theorem dX12_puts__24 : decode cX12_puts_ 24 = .ok (.aload_n 0, 1) := by decide +kernel
theorem dX12_puts__25 : decode cX12_puts_ 25 = .ok (.getfield 163, 3) := by decide +kernel
theorem dX12_puts__28 : decode cX12_puts_ 28 = .ok (.iload_n 1, 1) := by decide +kernel
theorem dX12_puts__29 : decode cX12_puts_ 29 = .ok (.aload_n 0, 1) := by decide +kernel
theorem dX12_puts__30 : decode cX12_puts_ 30 = .ok (.getfield 93, 3) := by decide +kernel
theorem dX12_puts__33 : decode cX12_puts_ 33 = .ok (.iconst 1, 1) := by decide +kernel
theorem dX12_puts__34 : decode cX12_puts_ 34 = .ok (.iaload, 1) := by decide +kernel
theorem dX12_puts__35 : decode cX12_puts_ 35 = .ok (.iastore, 1) := by decide +kernel
theorem dX12_puts__36 : decode cX12_puts_ 36 = .ok (.iconst 0, 1) := by decide +kernel
theorem dX12_puts__37 : decode cX12_puts_ 37 = .ok (.istore_n 2, 1) := by decide +kernel
theorem dX12_puts__38 : decode cX12_puts_ 38 = .ok (.iload_n 2, 1) := by decide +kernel
theorem dX12_puts__39 : decode cX12_puts_ 39 = .ok (.bipush 9, 2) := by decide +kernel
theorem dX12_puts__41 : decode cX12_puts_ 41 = .ok (.if_icmp .ge 49, 3) := by decide +kernel
theorem dX12_puts__44 : decode cX12_puts_ 44 = .ok (.aload_n 0, 1) := by decide +kernel
theorem dX12_puts__45 : decode cX12_puts_ 45 = .ok (.getfield 166, 3) := by decide +kernel
theorem dX12_puts__48 : decode cX12_puts_ 48 = .ok (.bipush 9, 2) := by decide +kernel
theorem dX12_puts__50 : decode cX12_puts_ 50 = .ok (.iload_n 1, 1) := by decide +kernel
theorem dX12_puts__51 : decode cX12_puts_ 51 = .ok (.imul, 1) := by decide +kernel
theorem dX12_puts__52 : decode cX12_puts_ 52 = .ok (.iload_n 2, 1) := by decide +kernel
theorem dX12_puts__53 : decode cX12_puts_ 53 = .ok (.iadd, 1) := by decide +kernel
theorem dX12_puts__54 : decode cX12_puts_ 54 = .ok (.aload_n 0, 1) := by decide +kernel
theorem dX12_puts__55 : decode cX12_puts_ 55 = .ok (.getfield 108, 3) := by decide +kernel
theorem dX12_puts__58 : decode cX12_puts_ 58 = .ok (.bipush 9, 2) := by decide +kernel
theorem dX12_puts__60 : decode cX12_puts_ 60 = .ok (.iload_n 2, 1) := by decide +kernel
theorem dX12_puts__61 : decode cX12_puts_ 61 = .ok (.iadd, 1) := by decide +kernel
theorem dX12_puts__62 : decode cX12_puts_ 62 = .ok (.iaload, 1) := by decide +kernel
theorem dX12_puts__63 : decode cX12_puts_ 63 = .ok (.iastore, 1) := by decide +kernel
theorem dX12_puts__64 : decode cX12_puts_ 64 = .ok (.aload_n 0, 1) := by decide +kernel
theorem dX12_puts__65 : decode cX12_puts_ 65 = .ok (.getfield 169, 3) := by decide +kernel
theorem dX12_puts__68 : decode cX12_puts_ 68 = .ok (.bipush 9, 2) := by decide +kernel
theorem dX12_puts__70 : decode cX12_puts_ 70 = .ok (.iload_n 1, 1) := by decide +kernel
theorem dX12_puts__71 : decode cX12_puts_ 71 = .ok (.imul, 1) := by decide +kernel
theorem dX12_puts__72 : decode cX12_puts_ 72 = .ok (.iload_n 2, 1) := by decide +kernel
theorem dX12_puts__73 : decode cX12_puts_ 73 = .ok (.iadd, 1) := by decide +kernel
theorem dX12_puts__74 : decode cX12_puts_ 74 = .ok (.aload_n 0, 1) := by decide +kernel
theorem dX12_puts__75 : decode cX12_puts_ 75 = .ok (.getfield 111, 3) := by decide +kernel
theorem dX12_puts__78 : decode cX12_puts_ 78 = .ok (.bipush 9, 2) := by decide +kernel
theorem dX12_puts__80 : decode cX12_puts_ 80 = .ok (.iload_n 2, 1) := by decide +kernel
theorem dX12_puts__81 : decode cX12_puts_ 81 = .ok (.iadd, 1) := by decide +kernel
theorem dX12_puts__82 : decode cX12_puts_ 82 = .ok (.baload, 1) := by decide +kernel
theorem dX12_puts__83 : decode cX12_puts_ 83 = .ok (.bastore, 1) := by decide +kernel
theorem dX12_puts__84 : decode cX12_puts_ 84 = .ok (.iinc 2 1, 3) := by decide +kernel
theorem dX12_puts__87 : decode cX12_puts_ 87 = .ok (.goto (-49), 3) := by decide +kernel
theorem dX12_puts__90 : decode cX12_puts_ 90 = .ok (.return_, 1) := by decide +kernel
noncomputable def b_X12_puts__0 (rec : Rk) (x1 : Int) (h : Hp) : Option (Int × Hp) :=
  ck (0 ≤ (1 : Int) ∧ (1 : Int) < 23) <|
  ck (0 ≤ x1 ∧ x1 < 3) <|
  lt (sI h 105 0 x1 (gI h 84 0 1)) fun h1 =>
  ck (0 ≤ (1 : Int) ∧ (1 : Int) < 23) <|
  ck (0 ≤ x1 ∧ x1 < 3) <|
  lt (sI h1 106 0 x1 (gI h1 85 0 1)) fun h2 =>
  ck (0 ≤ (1 : Int) ∧ (1 : Int) < 23) <|
  ck (0 ≤ x1 ∧ x1 < 3) <|
  lt (sI h2 107 0 x1 (gI h2 86 0 1)) fun h3 =>
  rec 1 [x1, 0] h3
noncomputable def b_X12_puts__1 (rec : Rk) (x1 x2 : Int) (h : Hp) : Option (Int × Hp) :=
  if 9 ≤ x2 then (
    some (0, h)
  ) else (
    ck (-2147483648 ≤ 9 * x1 ∧ 9 * x1 < 2147483648) <|
    ck (-2147483648 ≤ (9 * x1) + x2 ∧ (9 * x1) + x2 < 2147483648) <|
    ck (-2147483648 ≤ 9 + x2 ∧ 9 + x2 < 2147483648) <|
    ck (0 ≤ (9 + x2) ∧ (9 + x2) < 207) <|
    ck (0 ≤ ((9 * x1) + x2) ∧ ((9 * x1) + x2) < 27) <|
    lt (sI h 108 0 ((9 * x1) + x2) (gI h 91 0 (9 + x2))) fun h1 =>
    ck (-2147483648 ≤ 9 * x1 ∧ 9 * x1 < 2147483648) <|
    ck (-2147483648 ≤ (9 * x1) + x2 ∧ (9 * x1) + x2 < 2147483648) <|
    ck (-2147483648 ≤ 9 + x2 ∧ 9 + x2 < 2147483648) <|
    ck (0 ≤ (9 + x2) ∧ (9 + x2) < 207) <|
    ck (0 ≤ ((9 * x1) + x2) ∧ ((9 * x1) + x2) < 27) <|
    ck (0 ≤ (gI h1 92 0 (9 + x2)) ∧ (gI h1 92 0 (9 + x2)) < 2) <|
    lt (sI h1 109 0 ((9 * x1) + x2) (gI h1 92 0 (9 + x2))) fun h2 =>
    ck (-2147483648 ≤ x2 + 1 ∧ x2 + 1 < 2147483648) <|
    rec 1 [x1, x2 + 1] h2
  )
noncomputable def g_X12_puts_ (n : Nat) : Rk := Nat.rec (motive := fun _ => Rk) (fun _ _ _ => none) (fun _ rec k l h => if k = 0 then b_X12_puts__0 rec (l.getD 0 0) h else if k = 1 then b_X12_puts__1 rec (l.getD 0 0) (l.getD 1 0) h else none) n
noncomputable def f_X12_puts_ (x1 : Int) (h : Hp) : Option (Int × Hp) := g_X12_puts_ FU 0 [x1] h
set_option maxHeartbeats 4000000 in
set_option maxRecDepth 100000 in
theorem t_X12_puts__0 (E : xE) (d : Nat) (rec : Rk) (r : Int × Hp) (hr_38 : ∀ (x1 x2 : Int) (h : Hp), Lay h → rec 1 [x1, x2] h = some r → X E mX12_puts_ (d + 1) (0, 0) (0, 0) 38 [some (xr 12 0), some (xi x1), some (xi x2)] [] h (PoV r)) (x1 : Int) (h : Hp) (hL : Lay h) (hF : b_X12_puts__0 rec x1 h = some r) : X E mX12_puts_ (d + 1) (0, 0) (0, 0) 0 [some (xr 12 0), some (xi x1), none] [] h (PoV r) := by
  unfold b_X12_puts__0 at hF
  refine x_aload_n (i := 0) (b := 1) dX12_puts__0 rfl rfl rfl ?_
  refine x_getL (j := 0) (t := (105, 0, true)) (b := 4) fk_X12_157 dX12_puts__1 rfl hL rfl rfl rfl ?_
  refine x_iload_n (i := 1) (b := 5) dX12_puts__4 rfl rfl rfl ?_
  refine x_aload_n (i := 0) (b := 6) dX12_puts__5 rfl rfl rfl ?_
  refine x_getL (j := 0) (t := (84, 0, true)) (b := 9) fk_X12_87 dX12_puts__6 rfl hL rfl rfl rfl ?_
  refine x_iconst (n := 1) (b := 10) dX12_puts__9 (by decide) rfl ?_
  obtain ⟨hs, hF⟩ := ck_e hF
  refine x_iald (v := gI h 84 0 1) (b := 11) ak_84 dX12_puts__10 hs rfl rfl ?_
  obtain ⟨hs, hF⟩ := ck_e hF
  have hs1 := hs
  refine x_iast (b := 12) ak_105 dX12_puts__11 hs1 rfl ?_
  obtain ⟨h1, e_h1, hF⟩ := lt_e hF
  refine x_hp (h2 := h1) e_h1 ?_
  replace hL : Lay h1 := by rw [← e_h1]; exact hL
  refine x_aload_n (i := 0) (b := 13) dX12_puts__12 rfl rfl rfl ?_
  refine x_getL (j := 0) (t := (106, 0, true)) (b := 16) fk_X12_160 dX12_puts__13 rfl hL rfl rfl rfl ?_
  refine x_iload_n (i := 1) (b := 17) dX12_puts__16 rfl rfl rfl ?_
  refine x_aload_n (i := 0) (b := 18) dX12_puts__17 rfl rfl rfl ?_
  refine x_getL (j := 0) (t := (85, 0, true)) (b := 21) fk_X12_90 dX12_puts__18 rfl hL rfl rfl rfl ?_
  refine x_iconst (n := 1) (b := 22) dX12_puts__21 (by decide) rfl ?_
  obtain ⟨hs, hF⟩ := ck_e hF
  refine x_iald (v := gI h1 85 0 1) (b := 23) ak_85 dX12_puts__22 hs rfl rfl ?_
  obtain ⟨hs, hF⟩ := ck_e hF
  have hs1 := hs
  refine x_iast (b := 24) ak_106 dX12_puts__23 hs1 rfl ?_
  obtain ⟨h2, e_h2, hF⟩ := lt_e hF
  refine x_hp (h2 := h2) e_h2 ?_
  replace hL : Lay h2 := by rw [← e_h2]; exact hL
  refine x_aload_n (i := 0) (b := 25) dX12_puts__24 rfl rfl rfl ?_
  refine x_getL (j := 0) (t := (107, 0, true)) (b := 28) fk_X12_163 dX12_puts__25 rfl hL rfl rfl rfl ?_
  refine x_iload_n (i := 1) (b := 29) dX12_puts__28 rfl rfl rfl ?_
  refine x_aload_n (i := 0) (b := 30) dX12_puts__29 rfl rfl rfl ?_
  refine x_getL (j := 0) (t := (86, 0, true)) (b := 33) fk_X12_93 dX12_puts__30 rfl hL rfl rfl rfl ?_
  refine x_iconst (n := 1) (b := 34) dX12_puts__33 (by decide) rfl ?_
  obtain ⟨hs, hF⟩ := ck_e hF
  refine x_iald (v := gI h2 86 0 1) (b := 35) ak_86 dX12_puts__34 hs rfl rfl ?_
  obtain ⟨hs, hF⟩ := ck_e hF
  have hs1 := hs
  refine x_iast (b := 36) ak_107 dX12_puts__35 hs1 rfl ?_
  obtain ⟨h3, e_h3, hF⟩ := lt_e hF
  refine x_hp (h2 := h3) e_h3 ?_
  replace hL : Lay h3 := by rw [← e_h3]; exact hL
  refine x_iconst (n := 0) (b := 37) dX12_puts__36 (by decide) rfl ?_
  refine x_istore_n (i := 2) (b := 38) (ls2 := [some (xr 12 0), some (xi x1), some (xi 0)]) dX12_puts__37 rfl (Nat.le_of_ble_eq_true rfl) rfl rfl ?_
  exact x_dp (ls2 := [some (xr 12 0), some (xi x1), some (xi 0)]) ⟨rfl, rfl, rfl, trivial⟩ (hr_38 x1 0 h3 hL hF)
set_option maxHeartbeats 4000000 in
set_option maxRecDepth 100000 in
theorem t_X12_puts__1 (E : xE) (d : Nat) (rec : Rk) (r : Int × Hp) (hr_38 : ∀ (x1 x2 : Int) (h : Hp), Lay h → rec 1 [x1, x2] h = some r → X E mX12_puts_ (d + 1) (0, 0) (0, 0) 38 [some (xr 12 0), some (xi x1), some (xi x2)] [] h (PoV r)) (x1 x2 : Int) (h : Hp) (hL : Lay h) (hF : b_X12_puts__1 rec x1 x2 h = some r) : X E mX12_puts_ (d + 1) (0, 0) (0, 0) 38 [some (xr 12 0), some (xi x1), some (xi x2)] [] h (PoV r) := by
  unfold b_X12_puts__1 at hF
  refine x_iload_n (i := 2) (b := 39) dX12_puts__38 rfl rfl rfl ?_
  refine x_bipush (n := 9) (b := 41) dX12_puts__39 (by decide) rfl ?_
  refine x_icmp_ge (tgt := 90) (b := 44) dX12_puts__41 (by decide) rfl (fun hc => ?_) (fun hc => ?_)
  · replace hF := br_T hc hF
    refine x_return dX12_puts__90 rfl ⟨Nat.le_refl _, Nat.le_refl _⟩ ?_
    cases hF
    exact ⟨rfl, rfl, hL⟩
  · replace hF := br_F hc hF
    refine x_aload_n (i := 0) (b := 45) dX12_puts__44 rfl rfl rfl ?_
    refine x_getL (j := 0) (t := (108, 0, true)) (b := 48) fk_X12_166 dX12_puts__45 rfl hL rfl rfl rfl ?_
    refine x_bipush (n := 9) (b := 50) dX12_puts__48 (by decide) rfl ?_
    refine x_iload_n (i := 1) (b := 51) dX12_puts__50 rfl rfl rfl ?_
    obtain ⟨hs, hF⟩ := ck_e hF
    refine x_imul (b := 52) dX12_puts__51 hs rfl ?_
    refine x_iload_n (i := 2) (b := 53) dX12_puts__52 rfl rfl rfl ?_
    obtain ⟨hs, hF⟩ := ck_e hF
    refine x_iadd (b := 54) dX12_puts__53 hs rfl ?_
    refine x_aload_n (i := 0) (b := 55) dX12_puts__54 rfl rfl rfl ?_
    refine x_getL (j := 0) (t := (91, 0, true)) (b := 58) fk_X12_108 dX12_puts__55 rfl hL rfl rfl rfl ?_
    refine x_bipush (n := 9) (b := 60) dX12_puts__58 (by decide) rfl ?_
    refine x_iload_n (i := 2) (b := 61) dX12_puts__60 rfl rfl rfl ?_
    obtain ⟨hs, hF⟩ := ck_e hF
    refine x_iadd (b := 62) dX12_puts__61 hs rfl ?_
    obtain ⟨hs, hF⟩ := ck_e hF
    refine x_iald (v := gI h 91 0 (9 + x2)) (b := 63) ak_91 dX12_puts__62 hs rfl rfl ?_
    obtain ⟨hs, hF⟩ := ck_e hF
    have hs1 := hs
    refine x_iast (b := 64) ak_108 dX12_puts__63 hs1 rfl ?_
    obtain ⟨h1, e_h1, hF⟩ := lt_e hF
    refine x_hp (h2 := h1) e_h1 ?_
    replace hL : Lay h1 := by rw [← e_h1]; exact hL
    refine x_aload_n (i := 0) (b := 65) dX12_puts__64 rfl rfl rfl ?_
    refine x_getL (j := 0) (t := (109, 0, true)) (b := 68) fk_X12_169 dX12_puts__65 rfl hL rfl rfl rfl ?_
    refine x_bipush (n := 9) (b := 70) dX12_puts__68 (by decide) rfl ?_
    refine x_iload_n (i := 1) (b := 71) dX12_puts__70 rfl rfl rfl ?_
    obtain ⟨hs, hF⟩ := ck_e hF
    refine x_imul (b := 72) dX12_puts__71 hs rfl ?_
    refine x_iload_n (i := 2) (b := 73) dX12_puts__72 rfl rfl rfl ?_
    obtain ⟨hs, hF⟩ := ck_e hF
    refine x_iadd (b := 74) dX12_puts__73 hs rfl ?_
    refine x_aload_n (i := 0) (b := 75) dX12_puts__74 rfl rfl rfl ?_
    refine x_getL (j := 0) (t := (92, 0, true)) (b := 78) fk_X12_111 dX12_puts__75 rfl hL rfl rfl rfl ?_
    refine x_bipush (n := 9) (b := 80) dX12_puts__78 (by decide) rfl ?_
    refine x_iload_n (i := 2) (b := 81) dX12_puts__80 rfl rfl rfl ?_
    obtain ⟨hs, hF⟩ := ck_e hF
    refine x_iadd (b := 82) dX12_puts__81 hs rfl ?_
    obtain ⟨hs, hF⟩ := ck_e hF
    refine x_zald (v := gI h1 92 0 (9 + x2)) (b := 83) ak_92 dX12_puts__82 hs rfl rfl ?_
    obtain ⟨hs, hF⟩ := ck_e hF
    have hs1 := hs
    obtain ⟨hs, hF⟩ := ck_e hF
    refine x_zast (b := 84) ak_109 dX12_puts__83 hs1 hs rfl ?_
    obtain ⟨h2, e_h2, hF⟩ := lt_e hF
    refine x_hp (h2 := h2) e_h2 ?_
    replace hL : Lay h2 := by rw [← e_h2]; exact hL
    obtain ⟨hs, hF⟩ := ck_e hF
    refine x_iinc (i := 2) (b := 87) (ls2 := [some (xr 12 0), some (xi x1), some (xi (x2 + 1))]) dX12_puts__84 rfl (Nat.le_of_ble_eq_true rfl) hs rfl rfl ?_
    refine x_goto (tgt := 38) dX12_puts__87 (by decide) ?_
    exact x_dp (ls2 := [some (xr 12 0), some (xi x1), some (xi (x2 + 1))]) ⟨rfl, rfl, rfl, trivial⟩ (hr_38 x1 (x2 + 1) h2 hL hF)
set_option maxHeartbeats 4000000 in
set_option maxRecDepth 100000 in
theorem u_X12_puts_ (E : xE) (d : Nat) (r : Int × Hp) : ∀ n : Nat, (∀ (x1 : Int) (h : Hp), Lay h → g_X12_puts_ n 0 [x1] h = some r → X E mX12_puts_ (d + 1) (0, 0) (0, 0) 0 [some (xr 12 0), some (xi x1), none] [] h (PoV r)) ∧ (∀ (x1 x2 : Int) (h : Hp), Lay h → g_X12_puts_ n 1 [x1, x2] h = some r → X E mX12_puts_ (d + 1) (0, 0) (0, 0) 38 [some (xr 12 0), some (xi x1), some (xi x2)] [] h (PoV r)) := by
  intro n
  induction n with
  | zero => exact ⟨fun _ _ _ hF => no_e (r := r) hF, fun _ _ _ _ hF => no_e (r := r) hF⟩
  | succ n ih => exact ⟨fun x1 h hL hF => t_X12_puts__0 E d (g_X12_puts_ n) r ih.2 x1 h hL hF, fun x1 x2 h hL hF => t_X12_puts__1 E d (g_X12_puts_ n) r ih.2 x1 x2 h hL hF⟩
theorem c_X12_puts_ (d : Nat) (x1 : Int) (h : Hp) (r : Int × Hp) (hL : Lay h) (hF : f_X12_puts_ x1 h = some r) : Sp mX12_puts_ (d + 1) (0, 0) [xr 12 0, xi x1] h (PoV r) :=
  sp_of (by decide) rfl (Nat.le_of_ble_eq_true rfl) (ls := [some (xr 12 0), some (xi x1), none]) rfl (fun E _ => (u_X12_puts_ E d r FU).1 x1 h hL hF)
theorem dX12_reads_0 : decode cX12_reads 0 = .ok (.aload_n 0, 1) := by decide +kernel
theorem dX12_reads_1 : decode cX12_reads 1 = .ok (.getfield 13, 3) := by decide +kernel
theorem dX12_reads_4 : decode cX12_reads 4 = .ok (.bipush 15, 2) := by decide +kernel
theorem dX12_reads_6 : decode cX12_reads 6 = .ok (.iload_n 1, 1) := by decide +kernel
theorem dX12_reads_7 : decode cX12_reads 7 = .ok (.iadd, 1) := by decide +kernel
theorem dX12_reads_8 : decode cX12_reads 8 = .ok (.iload_n 2, 1) := by decide +kernel
theorem dX12_reads_9 : decode cX12_reads 9 = .ok (.iastore, 1) := by decide +kernel
theorem dX12_reads_10 : decode cX12_reads 10 = .ok (.return_, 1) := by decide +kernel
noncomputable def b_X12_reads_0 (rec : Rk) (x1 x2 : Int) (h : Hp) : Option (Int × Hp) :=
  ck (-2147483648 ≤ 15 + x1 ∧ 15 + x1 < 2147483648) <|
  ck (0 ≤ (15 + x1) ∧ (15 + x1) < 30) <|
  lt (sI h 61 0 (15 + x1) x2) fun h1 =>
  some (0, h1)
noncomputable def g_X12_reads (n : Nat) : Rk := Nat.rec (motive := fun _ => Rk) (fun _ _ _ => none) (fun _ rec k l h => if k = 0 then b_X12_reads_0 rec (l.getD 0 0) (l.getD 1 0) h else none) n
noncomputable def f_X12_reads (x1 x2 : Int) (h : Hp) : Option (Int × Hp) := g_X12_reads FU 0 [x1, x2] h
set_option maxHeartbeats 4000000 in
set_option maxRecDepth 100000 in
theorem t_X12_reads_0 (E : xE) (d : Nat) (rec : Rk) (r : Int × Hp) (x1 x2 : Int) (h : Hp) (hL : Lay h) (hF : b_X12_reads_0 rec x1 x2 h = some r) : X E mX12_reads (d + 1) (0, 0) (0, 0) 0 [some (xr 12 0), some (xi x1), some (xi x2)] [] h (PoV r) := by
  unfold b_X12_reads_0 at hF
  refine x_aload_n (i := 0) (b := 1) dX12_reads_0 rfl rfl rfl ?_
  refine x_getL (j := 0) (t := (61, 0, true)) (b := 4) fk_X12_13 dX12_reads_1 rfl hL rfl rfl rfl ?_
  refine x_bipush (n := 15) (b := 6) dX12_reads_4 (by decide) rfl ?_
  refine x_iload_n (i := 1) (b := 7) dX12_reads_6 rfl rfl rfl ?_
  obtain ⟨hs, hF⟩ := ck_e hF
  refine x_iadd (b := 8) dX12_reads_7 hs rfl ?_
  refine x_iload_n (i := 2) (b := 9) dX12_reads_8 rfl rfl rfl ?_
  obtain ⟨hs, hF⟩ := ck_e hF
  have hs1 := hs
  refine x_iast (b := 10) ak_61 dX12_reads_9 hs1 rfl ?_
  obtain ⟨h1, e_h1, hF⟩ := lt_e hF
  refine x_hp (h2 := h1) e_h1 ?_
  replace hL : Lay h1 := by rw [← e_h1]; exact hL
  refine x_return dX12_reads_10 rfl ⟨Nat.le_refl _, Nat.le_refl _⟩ ?_
  cases hF
  exact ⟨rfl, rfl, hL⟩
set_option maxHeartbeats 4000000 in
set_option maxRecDepth 100000 in
theorem u_X12_reads (E : xE) (d : Nat) (r : Int × Hp) : ∀ n : Nat, (∀ (x1 x2 : Int) (h : Hp), Lay h → g_X12_reads n 0 [x1, x2] h = some r → X E mX12_reads (d + 1) (0, 0) (0, 0) 0 [some (xr 12 0), some (xi x1), some (xi x2)] [] h (PoV r)) := by
  intro n
  induction n with
  | zero => exact fun _ _ _ _ hF => no_e (r := r) hF
  | succ n ih => exact fun x1 x2 h hL hF => t_X12_reads_0 E d (g_X12_reads n) r  x1 x2 h hL hF
theorem c_X12_reads (d : Nat) (x1 x2 : Int) (h : Hp) (r : Int × Hp) (hL : Lay h) (hF : f_X12_reads x1 x2 h = some r) : Sp mX12_reads (d + 1) (0, 0) [xr 12 0, xi x1, xi x2] h (PoV r) :=
  sp_of (by decide) rfl (Nat.le_of_ble_eq_true rfl) (ls := [some (xr 12 0), some (xi x1), some (xi x2)]) rfl (fun E _ => (u_X12_reads E d r FU) x1 x2 h hL hF)
theorem dX12_ship_0 : decode cX12_ship 0 = .ok (.aload_n 0, 1) := by decide +kernel
theorem dX12_ship_1 : decode cX12_ship 1 = .ok (.iconst 0, 1) := by decide +kernel
theorem dX12_ship_2 : decode cX12_ship 2 = .ok (.putfield 194, 3) := by decide +kernel
theorem dX12_ship_5 : decode cX12_ship 5 = .ok (.iload_n 1, 1) := by decide +kernel
theorem dX12_ship_6 : decode cX12_ship 6 = .ok (.ifCond .ne 12, 3) := by decide +kernel
theorem dX12_ship_9 : decode cX12_ship 9 = .ok (.aload_n 0, 1) := by decide +kernel
theorem dX12_ship_10 : decode cX12_ship 10 = .ok (.getfield 90, 3) := by decide +kernel
theorem dX12_ship_13 : decode cX12_ship 13 = .ok (.iconst 0, 1) := by decide +kernel
theorem dX12_ship_14 : decode cX12_ship 14 = .ok (.iaload, 1) := by decide +kernel
theorem dX12_ship_15 : decode cX12_ship 15 = .ok (.goto 46, 3) := by decide +kernel
theorem dX12_ship_18 : decode cX12_ship 18 = .ok (.iload_n 1, 1) := by decide +kernel
theorem dX12_ship_19 : decode cX12_ship 19 = .ok (.iconst 1, 1) := by decide +kernel
theorem dX12_ship_20 : decode cX12_ship 20 = .ok (.if_icmp .ne 12, 3) := by decide +kernel
theorem dX12_ship_23 : decode cX12_ship 23 = .ok (.aload_n 0, 1) := by decide +kernel
theorem dX12_ship_24 : decode cX12_ship 24 = .ok (.getfield 13, 3) := by decide +kernel
theorem dX12_ship_27 : decode cX12_ship 27 = .ok (.iconst 4, 1) := by decide +kernel
theorem dX12_ship_28 : decode cX12_ship 28 = .ok (.iaload, 1) := by decide +kernel
theorem dX12_ship_29 : decode cX12_ship 29 = .ok (.goto 32, 3) := by decide +kernel
theorem dX12_ship_32 : decode cX12_ship 32 = .ok (.iload_n 1, 1) := by decide +kernel
theorem dX12_ship_33 : decode cX12_ship 33 = .ok (.iconst 2, 1) := by decide +kernel
theorem dX12_ship_34 : decode cX12_ship 34 = .ok (.if_icmp .ne 12, 3) := by decide +kernel
theorem dX12_ship_37 : decode cX12_ship 37 = .ok (.aload_n 0, 1) := by decide +kernel
theorem dX12_ship_38 : decode cX12_ship 38 = .ok (.getfield 93, 3) := by decide +kernel
theorem dX12_ship_41 : decode cX12_ship 41 = .ok (.iconst 0, 1) := by decide +kernel
theorem dX12_ship_42 : decode cX12_ship 42 = .ok (.iaload, 1) := by decide +kernel
theorem dX12_ship_43 : decode cX12_ship 43 = .ok (.goto 18, 3) := by decide +kernel
theorem dX12_ship_46 : decode cX12_ship 46 = .ok (.iload_n 1, 1) := by decide +kernel
theorem dX12_ship_47 : decode cX12_ship 47 = .ok (.iconst 3, 1) := by decide +kernel
theorem dX12_ship_48 : decode cX12_ship 48 = .ok (.if_icmp .ne 12, 3) := by decide +kernel
theorem dX12_ship_51 : decode cX12_ship 51 = .ok (.aload_n 0, 1) := by decide +kernel
theorem dX12_ship_52 : decode cX12_ship 52 = .ok (.getfield 99, 3) := by decide +kernel
theorem dX12_ship_55 : decode cX12_ship 55 = .ok (.iconst 0, 1) := by decide +kernel
theorem dX12_ship_56 : decode cX12_ship 56 = .ok (.iaload, 1) := by decide +kernel
theorem dX12_ship_57 : decode cX12_ship 57 = .ok (.goto 4, 3) := by decide +kernel
theorem dX12_ship_60 : decode cX12_ship 60 = .ok (.iconst (-1), 1) := by decide +kernel
theorem dX12_ship_61 : decode cX12_ship 61 = .ok (.ireturn, 1) := by decide +kernel
noncomputable def b_X12_ship_0 (rec : Rk) (x1 : Int) (h : Hp) : Option (Int × Hp) :=
  lt (sI h 12 0 0 0) fun h1 =>
  if x1 = 0 then (
    ck (0 ≤ (0 : Int) ∧ (0 : Int) < 23) <|
    some (gI h1 85 0 0, h1)
  ) else (
    if x1 = 1 then (
      ck (0 ≤ (4 : Int) ∧ (4 : Int) < 30) <|
      some (gI h1 61 0 4, h1)
    ) else (
      if x1 = 2 then (
        ck (0 ≤ (0 : Int) ∧ (0 : Int) < 23) <|
        some (gI h1 86 0 0, h1)
      ) else (
        if x1 = 3 then (
          ck (0 ≤ (0 : Int) ∧ (0 : Int) < 23) <|
          some (gI h1 88 0 0, h1)
        ) else (
          some ((-1), h1)
        )
      )
    )
  )
noncomputable def g_X12_ship (n : Nat) : Rk := Nat.rec (motive := fun _ => Rk) (fun _ _ _ => none) (fun _ rec k l h => if k = 0 then b_X12_ship_0 rec (l.getD 0 0) h else none) n
noncomputable def f_X12_ship (x1 : Int) (h : Hp) : Option (Int × Hp) := g_X12_ship FU 0 [x1] h
set_option maxHeartbeats 4000000 in
set_option maxRecDepth 100000 in
theorem t_X12_ship_0 (E : xE) (d : Nat) (rec : Rk) (r : Int × Hp) (x1 : Int) (h : Hp) (hL : Lay h) (hF : b_X12_ship_0 rec x1 h = some r) : X E mX12_ship (d + 1) (0, 0) (0, 0) 0 [some (xr 12 0), some (xi x1)] [] h (PoI r) := by
  unfold b_X12_ship_0 at hF
  refine x_aload_n (i := 0) (b := 1) dX12_ship_0 rfl rfl rfl ?_
  refine x_iconst (n := 0) (b := 2) dX12_ship_1 (by decide) rfl ?_
  refine x_putI (b := 5) fk_X12_194 dX12_ship_2 rfl rfl 0 rfl ?_
  obtain ⟨h1, e_h1, hF⟩ := lt_e hF
  refine x_hp (h2 := h1) e_h1 ?_
  replace hL : Lay h1 := by rw [← e_h1]; exact hL
  refine x_iload_n (i := 1) (b := 6) dX12_ship_5 rfl rfl rfl ?_
  refine x_if_ne (tgt := 18) (b := 9) dX12_ship_6 (by decide) rfl (fun hc => ?_) (fun hc => ?_)
  · replace hF := br_F hc hF
    refine x_iload_n (i := 1) (b := 19) dX12_ship_18 rfl rfl rfl ?_
    refine x_iconst (n := 1) (b := 20) dX12_ship_19 (by decide) rfl ?_
    refine x_icmp_ne (tgt := 32) (b := 23) dX12_ship_20 (by decide) rfl (fun hc => ?_) (fun hc => ?_)
    · replace hF := br_F hc hF
      refine x_iload_n (i := 1) (b := 33) dX12_ship_32 rfl rfl rfl ?_
      refine x_iconst (n := 2) (b := 34) dX12_ship_33 (by decide) rfl ?_
      refine x_icmp_ne (tgt := 46) (b := 37) dX12_ship_34 (by decide) rfl (fun hc => ?_) (fun hc => ?_)
      · replace hF := br_F hc hF
        refine x_iload_n (i := 1) (b := 47) dX12_ship_46 rfl rfl rfl ?_
        refine x_iconst (n := 3) (b := 48) dX12_ship_47 (by decide) rfl ?_
        refine x_icmp_ne (tgt := 60) (b := 51) dX12_ship_48 (by decide) rfl (fun hc => ?_) (fun hc => ?_)
        · replace hF := br_F hc hF
          refine x_iconst (n := (-1)) (b := 61) dX12_ship_60 (by decide) rfl ?_
          refine x_ireturn dX12_ship_61 rfl ⟨Nat.le_refl _, Nat.le_refl _⟩ ?_
          cases hF
          exact ⟨rfl, rfl, hL⟩
        · replace hF := br_T hc hF
          refine x_aload_n (i := 0) (b := 52) dX12_ship_51 rfl rfl rfl ?_
          refine x_getL (j := 0) (t := (88, 0, true)) (b := 55) fk_X12_99 dX12_ship_52 rfl hL rfl rfl rfl ?_
          refine x_iconst (n := 0) (b := 56) dX12_ship_55 (by decide) rfl ?_
          obtain ⟨hs, hF⟩ := ck_e hF
          refine x_iald (v := gI h1 88 0 0) (b := 57) ak_88 dX12_ship_56 hs rfl rfl ?_
          refine x_goto (tgt := 61) dX12_ship_57 (by decide) ?_
          refine x_ireturn dX12_ship_61 rfl ⟨Nat.le_refl _, Nat.le_refl _⟩ ?_
          cases hF
          exact ⟨rfl, rfl, hL⟩
      · replace hF := br_T hc hF
        refine x_aload_n (i := 0) (b := 38) dX12_ship_37 rfl rfl rfl ?_
        refine x_getL (j := 0) (t := (86, 0, true)) (b := 41) fk_X12_93 dX12_ship_38 rfl hL rfl rfl rfl ?_
        refine x_iconst (n := 0) (b := 42) dX12_ship_41 (by decide) rfl ?_
        obtain ⟨hs, hF⟩ := ck_e hF
        refine x_iald (v := gI h1 86 0 0) (b := 43) ak_86 dX12_ship_42 hs rfl rfl ?_
        refine x_goto (tgt := 61) dX12_ship_43 (by decide) ?_
        refine x_ireturn dX12_ship_61 rfl ⟨Nat.le_refl _, Nat.le_refl _⟩ ?_
        cases hF
        exact ⟨rfl, rfl, hL⟩
    · replace hF := br_T hc hF
      refine x_aload_n (i := 0) (b := 24) dX12_ship_23 rfl rfl rfl ?_
      refine x_getL (j := 0) (t := (61, 0, true)) (b := 27) fk_X12_13 dX12_ship_24 rfl hL rfl rfl rfl ?_
      refine x_iconst (n := 4) (b := 28) dX12_ship_27 (by decide) rfl ?_
      obtain ⟨hs, hF⟩ := ck_e hF
      refine x_iald (v := gI h1 61 0 4) (b := 29) ak_61 dX12_ship_28 hs rfl rfl ?_
      refine x_goto (tgt := 61) dX12_ship_29 (by decide) ?_
      refine x_ireturn dX12_ship_61 rfl ⟨Nat.le_refl _, Nat.le_refl _⟩ ?_
      cases hF
      exact ⟨rfl, rfl, hL⟩
  · replace hF := br_T hc hF
    refine x_aload_n (i := 0) (b := 10) dX12_ship_9 rfl rfl rfl ?_
    refine x_getL (j := 0) (t := (85, 0, true)) (b := 13) fk_X12_90 dX12_ship_10 rfl hL rfl rfl rfl ?_
    refine x_iconst (n := 0) (b := 14) dX12_ship_13 (by decide) rfl ?_
    obtain ⟨hs, hF⟩ := ck_e hF
    refine x_iald (v := gI h1 85 0 0) (b := 15) ak_85 dX12_ship_14 hs rfl rfl ?_
    refine x_goto (tgt := 61) dX12_ship_15 (by decide) ?_
    refine x_ireturn dX12_ship_61 rfl ⟨Nat.le_refl _, Nat.le_refl _⟩ ?_
    cases hF
    exact ⟨rfl, rfl, hL⟩
set_option maxHeartbeats 4000000 in
set_option maxRecDepth 100000 in
theorem u_X12_ship (E : xE) (d : Nat) (r : Int × Hp) : ∀ n : Nat, (∀ (x1 : Int) (h : Hp), Lay h → g_X12_ship n 0 [x1] h = some r → X E mX12_ship (d + 1) (0, 0) (0, 0) 0 [some (xr 12 0), some (xi x1)] [] h (PoI r)) := by
  intro n
  induction n with
  | zero => exact fun _ _ _ hF => no_e (r := r) hF
  | succ n ih => exact fun x1 h hL hF => t_X12_ship_0 E d (g_X12_ship n) r  x1 h hL hF
theorem c_X12_ship (d : Nat) (x1 : Int) (h : Hp) (r : Int × Hp) (hL : Lay h) (hF : f_X12_ship x1 h = some r) : Sp mX12_ship (d + 1) (0, 0) [xr 12 0, xi x1] h (PoI r) :=
  sp_of (by decide) rfl (Nat.le_of_ble_eq_true rfl) (ls := [some (xr 12 0), some (xi x1)]) rfl (fun E _ => (u_X12_ship E d r FU) x1 h hL hF)
theorem dX12_sign_0 : decode cX12_sign 0 = .ok (.aload_n 0, 1) := by decide +kernel
theorem dX12_sign_1 : decode cX12_sign 1 = .ok (.dup, 1) := by decide +kernel
theorem dX12_sign_2 : decode cX12_sign 2 = .ok (.getfield 200, 3) := by decide +kernel
theorem dX12_sign_5 : decode cX12_sign 5 = .ok (.iconst 1, 1) := by decide +kernel
theorem dX12_sign_6 : decode cX12_sign 6 = .ok (.iadd, 1) := by decide +kernel
theorem dX12_sign_7 : decode cX12_sign 7 = .ok (.putfield 200, 3) := by decide +kernel
theorem dX12_sign_10 : decode cX12_sign 10 = .ok (.aload_n 0, 1) := by decide +kernel
theorem dX12_sign_11 : decode cX12_sign 11 = .ok (.iload_n 1, 1) := by decide +kernel
theorem dX12_sign_12 : decode cX12_sign 12 = .ok (.bipush 59, 2) := by decide +kernel
theorem dX12_sign_14 : decode cX12_sign 14 = .ok (.if_icmp .eq 57, 3) := by decide +kernel
theorem dX12_sign_17 : decode cX12_sign 17 = .ok (.iload_n 1, 1) := by decide +kernel
theorem dX12_sign_18 : decode cX12_sign 18 = .ok (.bipush 40, 2) := by decide +kernel
theorem dX12_sign_20 : decode cX12_sign 20 = .ok (.if_icmp .eq 51, 3) := by decide +kernel
theorem dX12_sign_23 : decode cX12_sign 23 = .ok (.iload_n 1, 1) := by decide +kernel
theorem dX12_sign_24 : decode cX12_sign 24 = .ok (.bipush 41, 2) := by decide +kernel
theorem dX12_sign_26 : decode cX12_sign 26 = .ok (.if_icmp .eq 45, 3) := by decide +kernel
theorem dX12_sign_29 : decode cX12_sign 29 = .ok (.iload_n 1, 1) := by decide +kernel
theorem dX12_sign_30 : decode cX12_sign 30 = .ok (.bipush 43, 2) := by decide +kernel
theorem dX12_sign_32 : decode cX12_sign 32 = .ok (.if_icmp .eq 39, 3) := by decide +kernel
theorem dX12_sign_35 : decode cX12_sign 35 = .ok (.iload_n 1, 1) := by decide +kernel
theorem dX12_sign_36 : decode cX12_sign 36 = .ok (.bipush 45, 2) := by decide +kernel
theorem dX12_sign_38 : decode cX12_sign 38 = .ok (.if_icmp .eq 33, 3) := by decide +kernel
theorem dX12_sign_41 : decode cX12_sign 41 = .ok (.iload_n 1, 1) := by decide +kernel
theorem dX12_sign_42 : decode cX12_sign 42 = .ok (.bipush 42, 2) := by decide +kernel
theorem dX12_sign_44 : decode cX12_sign 44 = .ok (.if_icmp .eq 27, 3) := by decide +kernel
theorem dX12_sign_47 : decode cX12_sign 47 = .ok (.iload_n 1, 1) := by decide +kernel
theorem dX12_sign_48 : decode cX12_sign 48 = .ok (.bipush 47, 2) := by decide +kernel
theorem dX12_sign_50 : decode cX12_sign 50 = .ok (.if_icmp .eq 21, 3) := by decide +kernel
theorem dX12_sign_53 : decode cX12_sign 53 = .ok (.iload_n 1, 1) := by decide +kernel
theorem dX12_sign_54 : decode cX12_sign 54 = .ok (.bipush 60, 2) := by decide +kernel
theorem dX12_sign_56 : decode cX12_sign 56 = .ok (.if_icmp .eq 15, 3) := by decide +kernel
theorem dX12_sign_59 : decode cX12_sign 59 = .ok (.iload_n 1, 1) := by decide +kernel
theorem dX12_sign_60 : decode cX12_sign 60 = .ok (.bipush 61, 2) := by decide +kernel
theorem dX12_sign_62 : decode cX12_sign 62 = .ok (.if_icmp .eq 9, 3) := by decide +kernel
theorem dX12_sign_65 : decode cX12_sign 65 = .ok (.iload_n 1, 1) := by decide +kernel
theorem dX12_sign_66 : decode cX12_sign 66 = .ok (.bipush 62, 2) := by decide +kernel
theorem dX12_sign_68 : decode cX12_sign 68 = .ok (.if_icmp .ne 7, 3) := by decide +kernel
theorem dX12_sign_71 : decode cX12_sign 71 = .ok (.iconst 3, 1) := by decide +kernel
theorem dX12_sign_72 : decode cX12_sign 72 = .ok (.goto 4, 3) := by decide +kernel
theorem dX12_sign_75 : decode cX12_sign 75 = .ok (.iconst 5, 1) := by decide +kernel
theorem dX12_sign_76 : decode cX12_sign 76 = .ok (.putfield 213, 3) := by decide +kernel
theorem dX12_sign_79 : decode cX12_sign 79 = .ok (.aload_n 0, 1) := by decide +kernel
theorem dX12_sign_80 : decode cX12_sign 80 = .ok (.iload_n 1, 1) := by decide +kernel
theorem dX12_sign_81 : decode cX12_sign 81 = .ok (.putfield 223, 3) := by decide +kernel
theorem dX12_sign_84 : decode cX12_sign 84 = .ok (.iload_n 1, 1) := by decide +kernel
theorem dX12_sign_85 : decode cX12_sign 85 = .ok (.bipush 60, 2) := by decide +kernel
theorem dX12_sign_87 : decode cX12_sign 87 = .ok (.if_icmp .ne 19, 3) := by decide +kernel
theorem dX12_sign_90 : decode cX12_sign 90 = .ok (.aload_n 0, 1) := by decide +kernel
theorem dX12_sign_91 : decode cX12_sign 91 = .ok (.invokevirtual 206, 3) := by decide +kernel
theorem dX12_sign_94 : decode cX12_sign 94 = .ok (.bipush 61, 2) := by decide +kernel
theorem dX12_sign_96 : decode cX12_sign 96 = .ok (.if_icmp .ne 10, 3) := by decide +kernel
theorem dX12_sign_99 : decode cX12_sign 99 = .ok (.aload_n 0, 1) := by decide +kernel
theorem dX12_sign_100 : decode cX12_sign 100 = .ok (.sipush 256, 3) := by decide +kernel
theorem dX12_sign_103 : decode cX12_sign 103 = .ok (.putfield 223, 3) := by decide +kernel
theorem dX12_sign_106 : decode cX12_sign 106 = .ok (.iload_n 1, 1) := by decide +kernel
theorem dX12_sign_107 : decode cX12_sign 107 = .ok (.bipush 60, 2) := by decide +kernel
theorem dX12_sign_109 : decode cX12_sign 109 = .ok (.if_icmp .ne 19, 3) := by decide +kernel
theorem dX12_sign_112 : decode cX12_sign 112 = .ok (.aload_n 0, 1) := by decide +kernel
theorem dX12_sign_113 : decode cX12_sign 113 = .ok (.invokevirtual 206, 3) := by decide +kernel
theorem dX12_sign_116 : decode cX12_sign 116 = .ok (.bipush 62, 2) := by decide +kernel
theorem dX12_sign_118 : decode cX12_sign 118 = .ok (.if_icmp .ne 10, 3) := by decide +kernel
theorem dX12_sign_121 : decode cX12_sign 121 = .ok (.aload_n 0, 1) := by decide +kernel
theorem dX12_sign_122 : decode cX12_sign 122 = .ok (.sipush 257, 3) := by decide +kernel
theorem dX12_sign_125 : decode cX12_sign 125 = .ok (.putfield 223, 3) := by decide +kernel
theorem dX12_sign_128 : decode cX12_sign 128 = .ok (.iload_n 1, 1) := by decide +kernel
theorem dX12_sign_129 : decode cX12_sign 129 = .ok (.bipush 62, 2) := by decide +kernel
theorem dX12_sign_131 : decode cX12_sign 131 = .ok (.if_icmp .ne 19, 3) := by decide +kernel
theorem dX12_sign_134 : decode cX12_sign 134 = .ok (.aload_n 0, 1) := by decide +kernel
theorem dX12_sign_135 : decode cX12_sign 135 = .ok (.invokevirtual 206, 3) := by decide +kernel
theorem dX12_sign_138 : decode cX12_sign 138 = .ok (.bipush 61, 2) := by decide +kernel
theorem dX12_sign_140 : decode cX12_sign 140 = .ok (.if_icmp .ne 10, 3) := by decide +kernel
theorem dX12_sign_143 : decode cX12_sign 143 = .ok (.aload_n 0, 1) := by decide +kernel
theorem dX12_sign_144 : decode cX12_sign 144 = .ok (.sipush 258, 3) := by decide +kernel
theorem dX12_sign_147 : decode cX12_sign 147 = .ok (.putfield 223, 3) := by decide +kernel
theorem dX12_sign_150 : decode cX12_sign 150 = .ok (.aload_n 0, 1) := by decide +kernel
theorem dX12_sign_151 : decode cX12_sign 151 = .ok (.getfield 223, 3) := by decide +kernel
theorem dX12_sign_154 : decode cX12_sign 154 = .ok (.sipush 256, 3) := by decide +kernel
theorem dX12_sign_157 : decode cX12_sign 157 = .ok (.if_icmp .lt 13, 3) := by decide +kernel
theorem dX12_sign_160 : decode cX12_sign 160 = .ok (.aload_n 0, 1) := by decide +kernel
theorem dX12_sign_161 : decode cX12_sign 161 = .ok (.dup, 1) := by decide +kernel
theorem dX12_sign_162 : decode cX12_sign 162 = .ok (.getfield 200, 3) := by decide +kernel
theorem dX12_sign_165 : decode cX12_sign 165 = .ok (.iconst 1, 1) := by decide +kernel
theorem dX12_sign_166 : decode cX12_sign 166 = .ok (.iadd, 1) := by decide +kernel
theorem dX12_sign_167 : decode cX12_sign 167 = .ok (.putfield 200, 3) := by decide +kernel
theorem dX12_sign_170 : decode cX12_sign 170 = .ok (.return_, 1) := by decide +kernel
noncomputable def b_X12_sign_0 (rec : Rk) (x1 : Int) (h : Hp) : Option (Int × Hp) :=
  ck (-2147483648 ≤ (gI h 12 0 28) + 1 ∧ (gI h 12 0 28) + 1 < 2147483648) <|
  lt (sI h 12 0 28 ((gI h 12 0 28) + 1)) fun h1 =>
  if x1 = 59 then (
    rec 1 [x1] h1
  ) else (
    if x1 = 40 then (
      rec 1 [x1] h1
    ) else (
      if x1 = 41 then (
        rec 1 [x1] h1
      ) else (
        if x1 = 43 then (
          rec 1 [x1] h1
        ) else (
          if x1 = 45 then (
            rec 1 [x1] h1
          ) else (
            if x1 = 42 then (
              rec 1 [x1] h1
            ) else (
              if x1 = 47 then (
                rec 1 [x1] h1
              ) else (
                if x1 = 60 then (
                  rec 1 [x1] h1
                ) else (
                  if x1 = 61 then (
                    rec 1 [x1] h1
                  ) else (
                    if x1 = 62 then (
                      rec 1 [x1] h1
                    ) else (
                      rec 2 [x1, 5] h1
                    )
                  )
                )
              )
            )
          )
        )
      )
    )
  )
noncomputable def b_X12_sign_1 (rec : Rk) (x1 : Int) (h : Hp) : Option (Int × Hp) :=
  rec 2 [x1, 3] h
noncomputable def b_X12_sign_2 (rec : Rk) (x1 y0 : Int) (h : Hp) : Option (Int × Hp) :=
  lt (sI h 12 0 30 y0) fun h1 =>
  lt (sI h1 12 0 31 x1) fun h2 =>
  if x1 = 60 then (
    bd (f_X12_here h2) fun v3 h4 =>
    if v3 = 61 then (
      lt (sI h4 12 0 31 256) fun h5 =>
      rec 3 [x1] h5
    ) else (
      rec 3 [x1] h4
    )
  ) else (
    rec 3 [x1] h2
  )
noncomputable def b_X12_sign_3 (rec : Rk) (x1 : Int) (h : Hp) : Option (Int × Hp) :=
  if x1 = 60 then (
    bd (f_X12_here h) fun v1 h2 =>
    if v1 = 62 then (
      lt (sI h2 12 0 31 257) fun h3 =>
      rec 4 [x1] h3
    ) else (
      rec 4 [x1] h2
    )
  ) else (
    rec 4 [x1] h
  )
noncomputable def b_X12_sign_4 (rec : Rk) (x1 : Int) (h : Hp) : Option (Int × Hp) :=
  if x1 = 62 then (
    bd (f_X12_here h) fun v1 h2 =>
    if v1 = 61 then (
      lt (sI h2 12 0 31 258) fun h3 =>
      rec 5 [] h3
    ) else (
      rec 5 [] h2
    )
  ) else (
    rec 5 [] h
  )
noncomputable def b_X12_sign_5 (rec : Rk) (h : Hp) : Option (Int × Hp) :=
  if (gI h 12 0 31) < 256 then (
    some (0, h)
  ) else (
    ck (-2147483648 ≤ (gI h 12 0 28) + 1 ∧ (gI h 12 0 28) + 1 < 2147483648) <|
    lt (sI h 12 0 28 ((gI h 12 0 28) + 1)) fun h1 =>
    some (0, h1)
  )
noncomputable def g_X12_sign (n : Nat) : Rk := Nat.rec (motive := fun _ => Rk) (fun _ _ _ => none) (fun _ rec k l h => if k = 0 then b_X12_sign_0 rec (l.getD 0 0) h else if k = 1 then b_X12_sign_1 rec (l.getD 0 0) h else if k = 2 then b_X12_sign_2 rec (l.getD 0 0) (l.getD 1 0) h else if k = 3 then b_X12_sign_3 rec (l.getD 0 0) h else if k = 4 then b_X12_sign_4 rec (l.getD 0 0) h else if k = 5 then b_X12_sign_5 rec  h else none) n
noncomputable def f_X12_sign (x1 : Int) (h : Hp) : Option (Int × Hp) := g_X12_sign FU 0 [x1] h
set_option maxHeartbeats 4000000 in
set_option maxRecDepth 100000 in
theorem t_X12_sign_0 (E : xE) (d : Nat) (rec : Rk) (r : Int × Hp) (hr_71 : ∀ (x1 : Int) (h : Hp), Lay h → rec 1 [x1] h = some r → X E mX12_sign (d + 2) (0, 0) (0, 0) 71 [some (xr 12 0), some (xi x1)] [xr 12 0] h (PoV r)) (hr_76 : ∀ (x1 y0 : Int) (h : Hp), Lay h → rec 2 [x1, y0] h = some r → X E mX12_sign (d + 2) (0, 0) (0, 0) 76 [some (xr 12 0), some (xi x1)] [xi y0, xr 12 0] h (PoV r)) (x1 : Int) (h : Hp) (hL : Lay h) (hF : b_X12_sign_0 rec x1 h = some r) : X E mX12_sign (d + 2) (0, 0) (0, 0) 0 [some (xr 12 0), some (xi x1)] [] h (PoV r) := by
  unfold b_X12_sign_0 at hF
  refine x_aload_n (i := 0) (b := 1) dX12_sign_0 rfl rfl rfl ?_
  refine x_dup (b := 2) dX12_sign_1 rfl rfl ?_
  refine x_getI (v := gI h 12 0 28) (b := 5) fk_X12_200 dX12_sign_2 (by decide) rfl rfl ?_
  refine x_iconst (n := 1) (b := 6) dX12_sign_5 (by decide) rfl ?_
  obtain ⟨hs, hF⟩ := ck_e hF
  refine x_iadd (b := 7) dX12_sign_6 hs rfl ?_
  refine x_putI (b := 10) fk_X12_200 dX12_sign_7 rfl rfl 28 rfl ?_
  obtain ⟨h1, e_h1, hF⟩ := lt_e hF
  refine x_hp (h2 := h1) e_h1 ?_
  replace hL : Lay h1 := by rw [← e_h1]; exact hL
  refine x_aload_n (i := 0) (b := 11) dX12_sign_10 rfl rfl rfl ?_
  refine x_iload_n (i := 1) (b := 12) dX12_sign_11 rfl rfl rfl ?_
  refine x_bipush (n := 59) (b := 14) dX12_sign_12 (by decide) rfl ?_
  refine x_icmp_eq (tgt := 71) (b := 17) dX12_sign_14 (by decide) rfl (fun hc => ?_) (fun hc => ?_)
  · replace hF := br_T hc hF
    exact x_dp (ls2 := [some (xr 12 0), some (xi x1)]) ⟨rfl, rfl, trivial⟩ (hr_71 x1 h1 hL hF)
  · replace hF := br_F hc hF
    refine x_iload_n (i := 1) (b := 18) dX12_sign_17 rfl rfl rfl ?_
    refine x_bipush (n := 40) (b := 20) dX12_sign_18 (by decide) rfl ?_
    refine x_icmp_eq (tgt := 71) (b := 23) dX12_sign_20 (by decide) rfl (fun hc => ?_) (fun hc => ?_)
    · replace hF := br_T hc hF
      exact x_dp (ls2 := [some (xr 12 0), some (xi x1)]) ⟨rfl, rfl, trivial⟩ (hr_71 x1 h1 hL hF)
    · replace hF := br_F hc hF
      refine x_iload_n (i := 1) (b := 24) dX12_sign_23 rfl rfl rfl ?_
      refine x_bipush (n := 41) (b := 26) dX12_sign_24 (by decide) rfl ?_
      refine x_icmp_eq (tgt := 71) (b := 29) dX12_sign_26 (by decide) rfl (fun hc => ?_) (fun hc => ?_)
      · replace hF := br_T hc hF
        exact x_dp (ls2 := [some (xr 12 0), some (xi x1)]) ⟨rfl, rfl, trivial⟩ (hr_71 x1 h1 hL hF)
      · replace hF := br_F hc hF
        refine x_iload_n (i := 1) (b := 30) dX12_sign_29 rfl rfl rfl ?_
        refine x_bipush (n := 43) (b := 32) dX12_sign_30 (by decide) rfl ?_
        refine x_icmp_eq (tgt := 71) (b := 35) dX12_sign_32 (by decide) rfl (fun hc => ?_) (fun hc => ?_)
        · replace hF := br_T hc hF
          exact x_dp (ls2 := [some (xr 12 0), some (xi x1)]) ⟨rfl, rfl, trivial⟩ (hr_71 x1 h1 hL hF)
        · replace hF := br_F hc hF
          refine x_iload_n (i := 1) (b := 36) dX12_sign_35 rfl rfl rfl ?_
          refine x_bipush (n := 45) (b := 38) dX12_sign_36 (by decide) rfl ?_
          refine x_icmp_eq (tgt := 71) (b := 41) dX12_sign_38 (by decide) rfl (fun hc => ?_) (fun hc => ?_)
          · replace hF := br_T hc hF
            exact x_dp (ls2 := [some (xr 12 0), some (xi x1)]) ⟨rfl, rfl, trivial⟩ (hr_71 x1 h1 hL hF)
          · replace hF := br_F hc hF
            refine x_iload_n (i := 1) (b := 42) dX12_sign_41 rfl rfl rfl ?_
            refine x_bipush (n := 42) (b := 44) dX12_sign_42 (by decide) rfl ?_
            refine x_icmp_eq (tgt := 71) (b := 47) dX12_sign_44 (by decide) rfl (fun hc => ?_) (fun hc => ?_)
            · replace hF := br_T hc hF
              exact x_dp (ls2 := [some (xr 12 0), some (xi x1)]) ⟨rfl, rfl, trivial⟩ (hr_71 x1 h1 hL hF)
            · replace hF := br_F hc hF
              refine x_iload_n (i := 1) (b := 48) dX12_sign_47 rfl rfl rfl ?_
              refine x_bipush (n := 47) (b := 50) dX12_sign_48 (by decide) rfl ?_
              refine x_icmp_eq (tgt := 71) (b := 53) dX12_sign_50 (by decide) rfl (fun hc => ?_) (fun hc => ?_)
              · replace hF := br_T hc hF
                exact x_dp (ls2 := [some (xr 12 0), some (xi x1)]) ⟨rfl, rfl, trivial⟩ (hr_71 x1 h1 hL hF)
              · replace hF := br_F hc hF
                refine x_iload_n (i := 1) (b := 54) dX12_sign_53 rfl rfl rfl ?_
                refine x_bipush (n := 60) (b := 56) dX12_sign_54 (by decide) rfl ?_
                refine x_icmp_eq (tgt := 71) (b := 59) dX12_sign_56 (by decide) rfl (fun hc => ?_) (fun hc => ?_)
                · replace hF := br_T hc hF
                  exact x_dp (ls2 := [some (xr 12 0), some (xi x1)]) ⟨rfl, rfl, trivial⟩ (hr_71 x1 h1 hL hF)
                · replace hF := br_F hc hF
                  refine x_iload_n (i := 1) (b := 60) dX12_sign_59 rfl rfl rfl ?_
                  refine x_bipush (n := 61) (b := 62) dX12_sign_60 (by decide) rfl ?_
                  refine x_icmp_eq (tgt := 71) (b := 65) dX12_sign_62 (by decide) rfl (fun hc => ?_) (fun hc => ?_)
                  · replace hF := br_T hc hF
                    exact x_dp (ls2 := [some (xr 12 0), some (xi x1)]) ⟨rfl, rfl, trivial⟩ (hr_71 x1 h1 hL hF)
                  · replace hF := br_F hc hF
                    refine x_iload_n (i := 1) (b := 66) dX12_sign_65 rfl rfl rfl ?_
                    refine x_bipush (n := 62) (b := 68) dX12_sign_66 (by decide) rfl ?_
                    refine x_icmp_ne (tgt := 75) (b := 71) dX12_sign_68 (by decide) rfl (fun hc => ?_) (fun hc => ?_)
                    · replace hF := br_F hc hF
                      refine x_iconst (n := 5) (b := 76) dX12_sign_75 (by decide) rfl ?_
                      exact x_dp (ls2 := [some (xr 12 0), some (xi x1)]) ⟨rfl, rfl, trivial⟩ (hr_76 x1 5 h1 hL hF)
                    · replace hF := br_T hc hF
                      exact x_dp (ls2 := [some (xr 12 0), some (xi x1)]) ⟨rfl, rfl, trivial⟩ (hr_71 x1 h1 hL hF)
set_option maxHeartbeats 4000000 in
set_option maxRecDepth 100000 in
theorem t_X12_sign_1 (E : xE) (d : Nat) (rec : Rk) (r : Int × Hp) (hr_76 : ∀ (x1 y0 : Int) (h : Hp), Lay h → rec 2 [x1, y0] h = some r → X E mX12_sign (d + 2) (0, 0) (0, 0) 76 [some (xr 12 0), some (xi x1)] [xi y0, xr 12 0] h (PoV r)) (x1 : Int) (h : Hp) (hL : Lay h) (hF : b_X12_sign_1 rec x1 h = some r) : X E mX12_sign (d + 2) (0, 0) (0, 0) 71 [some (xr 12 0), some (xi x1)] [xr 12 0] h (PoV r) := by
  unfold b_X12_sign_1 at hF
  refine x_iconst (n := 3) (b := 72) dX12_sign_71 (by decide) rfl ?_
  refine x_goto (tgt := 76) dX12_sign_72 (by decide) ?_
  exact x_dp (ls2 := [some (xr 12 0), some (xi x1)]) ⟨rfl, rfl, trivial⟩ (hr_76 x1 3 h hL hF)
set_option maxHeartbeats 4000000 in
set_option maxRecDepth 100000 in
theorem t_X12_sign_2 (E : xE) (d : Nat) (rec : Rk) (r : Int × Hp) (hr_106 : ∀ (x1 : Int) (h : Hp), Lay h → rec 3 [x1] h = some r → X E mX12_sign (d + 2) (0, 0) (0, 0) 106 [some (xr 12 0), some (xi x1)] [] h (PoV r)) (x1 y0 : Int) (h : Hp) (hL : Lay h) (hF : b_X12_sign_2 rec x1 y0 h = some r) : X E mX12_sign (d + 2) (0, 0) (0, 0) 76 [some (xr 12 0), some (xi x1)] [xi y0, xr 12 0] h (PoV r) := by
  unfold b_X12_sign_2 at hF
  refine x_putI (b := 79) fk_X12_213 dX12_sign_76 rfl rfl 30 rfl ?_
  obtain ⟨h1, e_h1, hF⟩ := lt_e hF
  refine x_hp (h2 := h1) e_h1 ?_
  replace hL : Lay h1 := by rw [← e_h1]; exact hL
  refine x_aload_n (i := 0) (b := 80) dX12_sign_79 rfl rfl rfl ?_
  refine x_iload_n (i := 1) (b := 81) dX12_sign_80 rfl rfl rfl ?_
  refine x_putI (b := 84) fk_X12_223 dX12_sign_81 rfl rfl 31 rfl ?_
  obtain ⟨h2, e_h2, hF⟩ := lt_e hF
  refine x_hp (h2 := h2) e_h2 ?_
  replace hL : Lay h2 := by rw [← e_h2]; exact hL
  refine x_iload_n (i := 1) (b := 85) dX12_sign_84 rfl rfl rfl ?_
  refine x_bipush (n := 60) (b := 87) dX12_sign_85 (by decide) rfl ?_
  refine x_icmp_ne (tgt := 106) (b := 90) dX12_sign_87 (by decide) rfl (fun hc => ?_) (fun hc => ?_)
  · replace hF := br_F hc hF
    exact x_dp (ls2 := [some (xr 12 0), some (xi x1)]) ⟨rfl, rfl, trivial⟩ (hr_106 x1 h2 hL hF)
  · replace hF := br_T hc hF
    refine x_aload_n (i := 0) (b := 91) dX12_sign_90 rfl rfl rfl ?_
    obtain ⟨v3, h4, hq, hF⟩ := bd_e hF
    refine x_callV (as := []) (rest := []) (b := 94) (c_X12_here d h2 _ hL hq) dX12_sign_91 cw_X12_206 ⟨_, _, rfl, Nat.le_of_ble_eq_true rfl⟩ rfl rfl (Nat.le_of_ble_eq_true rfl) ⟨Nat.le_refl _, Nat.le_refl _⟩ rfl (fun rv hh hp _ => ?_)
    obtain ⟨rfl, rfl, hL⟩ := hp
    refine x_bipush (n := 61) (b := 96) dX12_sign_94 (by decide) rfl ?_
    refine x_icmp_ne (tgt := 106) (b := 99) dX12_sign_96 (by decide) rfl (fun hc => ?_) (fun hc => ?_)
    · replace hF := br_F hc hF
      exact x_dp (ls2 := [some (xr 12 0), some (xi x1)]) ⟨rfl, rfl, trivial⟩ (hr_106 x1 h4 hL hF)
    · replace hF := br_T hc hF
      refine x_aload_n (i := 0) (b := 100) dX12_sign_99 rfl rfl rfl ?_
      refine x_sipush (n := 256) (b := 103) dX12_sign_100 (by decide) rfl ?_
      refine x_putI (b := 106) fk_X12_223 dX12_sign_103 rfl rfl 31 rfl ?_
      obtain ⟨h5, e_h5, hF⟩ := lt_e hF
      refine x_hp (h2 := h5) e_h5 ?_
      replace hL : Lay h5 := by rw [← e_h5]; exact hL
      exact x_dp (ls2 := [some (xr 12 0), some (xi x1)]) ⟨rfl, rfl, trivial⟩ (hr_106 x1 h5 hL hF)
set_option maxHeartbeats 4000000 in
set_option maxRecDepth 100000 in
theorem t_X12_sign_3 (E : xE) (d : Nat) (rec : Rk) (r : Int × Hp) (hr_128 : ∀ (x1 : Int) (h : Hp), Lay h → rec 4 [x1] h = some r → X E mX12_sign (d + 2) (0, 0) (0, 0) 128 [some (xr 12 0), some (xi x1)] [] h (PoV r)) (x1 : Int) (h : Hp) (hL : Lay h) (hF : b_X12_sign_3 rec x1 h = some r) : X E mX12_sign (d + 2) (0, 0) (0, 0) 106 [some (xr 12 0), some (xi x1)] [] h (PoV r) := by
  unfold b_X12_sign_3 at hF
  refine x_iload_n (i := 1) (b := 107) dX12_sign_106 rfl rfl rfl ?_
  refine x_bipush (n := 60) (b := 109) dX12_sign_107 (by decide) rfl ?_
  refine x_icmp_ne (tgt := 128) (b := 112) dX12_sign_109 (by decide) rfl (fun hc => ?_) (fun hc => ?_)
  · replace hF := br_F hc hF
    exact x_dp (ls2 := [some (xr 12 0), some (xi x1)]) ⟨rfl, rfl, trivial⟩ (hr_128 x1 h hL hF)
  · replace hF := br_T hc hF
    refine x_aload_n (i := 0) (b := 113) dX12_sign_112 rfl rfl rfl ?_
    obtain ⟨v1, h2, hq, hF⟩ := bd_e hF
    refine x_callV (as := []) (rest := []) (b := 116) (c_X12_here d h _ hL hq) dX12_sign_113 cw_X12_206 ⟨_, _, rfl, Nat.le_of_ble_eq_true rfl⟩ rfl rfl (Nat.le_of_ble_eq_true rfl) ⟨Nat.le_refl _, Nat.le_refl _⟩ rfl (fun rv hh hp _ => ?_)
    obtain ⟨rfl, rfl, hL⟩ := hp
    refine x_bipush (n := 62) (b := 118) dX12_sign_116 (by decide) rfl ?_
    refine x_icmp_ne (tgt := 128) (b := 121) dX12_sign_118 (by decide) rfl (fun hc => ?_) (fun hc => ?_)
    · replace hF := br_F hc hF
      exact x_dp (ls2 := [some (xr 12 0), some (xi x1)]) ⟨rfl, rfl, trivial⟩ (hr_128 x1 h2 hL hF)
    · replace hF := br_T hc hF
      refine x_aload_n (i := 0) (b := 122) dX12_sign_121 rfl rfl rfl ?_
      refine x_sipush (n := 257) (b := 125) dX12_sign_122 (by decide) rfl ?_
      refine x_putI (b := 128) fk_X12_223 dX12_sign_125 rfl rfl 31 rfl ?_
      obtain ⟨h3, e_h3, hF⟩ := lt_e hF
      refine x_hp (h2 := h3) e_h3 ?_
      replace hL : Lay h3 := by rw [← e_h3]; exact hL
      exact x_dp (ls2 := [some (xr 12 0), some (xi x1)]) ⟨rfl, rfl, trivial⟩ (hr_128 x1 h3 hL hF)
set_option maxHeartbeats 4000000 in
set_option maxRecDepth 100000 in
theorem t_X12_sign_4 (E : xE) (d : Nat) (rec : Rk) (r : Int × Hp) (hr_150 : ∀ (h : Hp), Lay h → rec 5 [] h = some r → X E mX12_sign (d + 2) (0, 0) (0, 0) 150 [some (xr 12 0), none] [] h (PoV r)) (x1 : Int) (h : Hp) (hL : Lay h) (hF : b_X12_sign_4 rec x1 h = some r) : X E mX12_sign (d + 2) (0, 0) (0, 0) 128 [some (xr 12 0), some (xi x1)] [] h (PoV r) := by
  unfold b_X12_sign_4 at hF
  refine x_iload_n (i := 1) (b := 129) dX12_sign_128 rfl rfl rfl ?_
  refine x_bipush (n := 62) (b := 131) dX12_sign_129 (by decide) rfl ?_
  refine x_icmp_ne (tgt := 150) (b := 134) dX12_sign_131 (by decide) rfl (fun hc => ?_) (fun hc => ?_)
  · replace hF := br_F hc hF
    exact x_dp (ls2 := [some (xr 12 0), none]) ⟨rfl, trivial⟩ (hr_150  h hL hF)
  · replace hF := br_T hc hF
    refine x_aload_n (i := 0) (b := 135) dX12_sign_134 rfl rfl rfl ?_
    obtain ⟨v1, h2, hq, hF⟩ := bd_e hF
    refine x_callV (as := []) (rest := []) (b := 138) (c_X12_here d h _ hL hq) dX12_sign_135 cw_X12_206 ⟨_, _, rfl, Nat.le_of_ble_eq_true rfl⟩ rfl rfl (Nat.le_of_ble_eq_true rfl) ⟨Nat.le_refl _, Nat.le_refl _⟩ rfl (fun rv hh hp _ => ?_)
    obtain ⟨rfl, rfl, hL⟩ := hp
    refine x_bipush (n := 61) (b := 140) dX12_sign_138 (by decide) rfl ?_
    refine x_icmp_ne (tgt := 150) (b := 143) dX12_sign_140 (by decide) rfl (fun hc => ?_) (fun hc => ?_)
    · replace hF := br_F hc hF
      exact x_dp (ls2 := [some (xr 12 0), none]) ⟨rfl, trivial⟩ (hr_150  h2 hL hF)
    · replace hF := br_T hc hF
      refine x_aload_n (i := 0) (b := 144) dX12_sign_143 rfl rfl rfl ?_
      refine x_sipush (n := 258) (b := 147) dX12_sign_144 (by decide) rfl ?_
      refine x_putI (b := 150) fk_X12_223 dX12_sign_147 rfl rfl 31 rfl ?_
      obtain ⟨h3, e_h3, hF⟩ := lt_e hF
      refine x_hp (h2 := h3) e_h3 ?_
      replace hL : Lay h3 := by rw [← e_h3]; exact hL
      exact x_dp (ls2 := [some (xr 12 0), none]) ⟨rfl, trivial⟩ (hr_150  h3 hL hF)
set_option maxHeartbeats 4000000 in
set_option maxRecDepth 100000 in
theorem t_X12_sign_5 (E : xE) (d : Nat) (rec : Rk) (r : Int × Hp) (h : Hp) (hL : Lay h) (hF : b_X12_sign_5 rec  h = some r) : X E mX12_sign (d + 2) (0, 0) (0, 0) 150 [some (xr 12 0), none] [] h (PoV r) := by
  unfold b_X12_sign_5 at hF
  refine x_aload_n (i := 0) (b := 151) dX12_sign_150 rfl rfl rfl ?_
  refine x_getI (v := gI h 12 0 31) (b := 154) fk_X12_223 dX12_sign_151 (by decide) rfl rfl ?_
  refine x_sipush (n := 256) (b := 157) dX12_sign_154 (by decide) rfl ?_
  refine x_icmp_lt (tgt := 170) (b := 160) dX12_sign_157 (by decide) rfl (fun hc => ?_) (fun hc => ?_)
  · replace hF := br_T hc hF
    refine x_return dX12_sign_170 rfl ⟨Nat.le_refl _, Nat.le_refl _⟩ ?_
    cases hF
    exact ⟨rfl, rfl, hL⟩
  · replace hF := br_F hc hF
    refine x_aload_n (i := 0) (b := 161) dX12_sign_160 rfl rfl rfl ?_
    refine x_dup (b := 162) dX12_sign_161 rfl rfl ?_
    refine x_getI (v := gI h 12 0 28) (b := 165) fk_X12_200 dX12_sign_162 (by decide) rfl rfl ?_
    refine x_iconst (n := 1) (b := 166) dX12_sign_165 (by decide) rfl ?_
    obtain ⟨hs, hF⟩ := ck_e hF
    refine x_iadd (b := 167) dX12_sign_166 hs rfl ?_
    refine x_putI (b := 170) fk_X12_200 dX12_sign_167 rfl rfl 28 rfl ?_
    obtain ⟨h1, e_h1, hF⟩ := lt_e hF
    refine x_hp (h2 := h1) e_h1 ?_
    replace hL : Lay h1 := by rw [← e_h1]; exact hL
    refine x_return dX12_sign_170 rfl ⟨Nat.le_refl _, Nat.le_refl _⟩ ?_
    cases hF
    exact ⟨rfl, rfl, hL⟩
set_option maxHeartbeats 4000000 in
set_option maxRecDepth 100000 in
theorem u_X12_sign (E : xE) (d : Nat) (r : Int × Hp) : ∀ n : Nat, (∀ (x1 : Int) (h : Hp), Lay h → g_X12_sign n 0 [x1] h = some r → X E mX12_sign (d + 2) (0, 0) (0, 0) 0 [some (xr 12 0), some (xi x1)] [] h (PoV r)) ∧ (∀ (x1 : Int) (h : Hp), Lay h → g_X12_sign n 1 [x1] h = some r → X E mX12_sign (d + 2) (0, 0) (0, 0) 71 [some (xr 12 0), some (xi x1)] [xr 12 0] h (PoV r)) ∧ (∀ (x1 y0 : Int) (h : Hp), Lay h → g_X12_sign n 2 [x1, y0] h = some r → X E mX12_sign (d + 2) (0, 0) (0, 0) 76 [some (xr 12 0), some (xi x1)] [xi y0, xr 12 0] h (PoV r)) ∧ (∀ (x1 : Int) (h : Hp), Lay h → g_X12_sign n 3 [x1] h = some r → X E mX12_sign (d + 2) (0, 0) (0, 0) 106 [some (xr 12 0), some (xi x1)] [] h (PoV r)) ∧ (∀ (x1 : Int) (h : Hp), Lay h → g_X12_sign n 4 [x1] h = some r → X E mX12_sign (d + 2) (0, 0) (0, 0) 128 [some (xr 12 0), some (xi x1)] [] h (PoV r)) ∧ (∀ (h : Hp), Lay h → g_X12_sign n 5 [] h = some r → X E mX12_sign (d + 2) (0, 0) (0, 0) 150 [some (xr 12 0), none] [] h (PoV r)) := by
  intro n
  induction n with
  | zero => exact ⟨fun _ _ _ hF => no_e (r := r) hF, fun _ _ _ hF => no_e (r := r) hF, fun _ _ _ _ hF => no_e (r := r) hF, fun _ _ _ hF => no_e (r := r) hF, fun _ _ _ hF => no_e (r := r) hF, fun _ _ hF => no_e (r := r) hF⟩
  | succ n ih => exact ⟨fun x1 h hL hF => t_X12_sign_0 E d (g_X12_sign n) r ih.2.1 ih.2.2.1 x1 h hL hF, fun x1 h hL hF => t_X12_sign_1 E d (g_X12_sign n) r ih.2.2.1 x1 h hL hF, fun x1 y0 h hL hF => t_X12_sign_2 E d (g_X12_sign n) r ih.2.2.2.1 x1 y0 h hL hF, fun x1 h hL hF => t_X12_sign_3 E d (g_X12_sign n) r ih.2.2.2.2.1 x1 h hL hF, fun x1 h hL hF => t_X12_sign_4 E d (g_X12_sign n) r ih.2.2.2.2.2 x1 h hL hF, fun h hL hF => t_X12_sign_5 E d (g_X12_sign n) r   h hL hF⟩
theorem c_X12_sign (d : Nat) (x1 : Int) (h : Hp) (r : Int × Hp) (hL : Lay h) (hF : f_X12_sign x1 h = some r) : Sp mX12_sign (d + 2) (0, 0) [xr 12 0, xi x1] h (PoV r) :=
  sp_of (by decide) rfl (Nat.le_of_ble_eq_true rfl) (ls := [some (xr 12 0), some (xi x1)]) rfl (fun E _ => (u_X12_sign E d r FU).1 x1 h hL hF)
theorem dX12_slot_0 : decode cX12_slot 0 = .ok (.iload_n 1, 1) := by decide +kernel
theorem dX12_slot_1 : decode cX12_slot 1 = .ok (.ifCond .lt 22, 3) := by decide +kernel
theorem dX12_slot_4 : decode cX12_slot 4 = .ok (.iload_n 1, 1) := by decide +kernel
theorem dX12_slot_5 : decode cX12_slot 5 = .ok (.aload_n 0, 1) := by decide +kernel
theorem dX12_slot_6 : decode cX12_slot 6 = .ok (.getfield 13, 3) := by decide +kernel
theorem dX12_slot_9 : decode cX12_slot 9 = .ok (.bipush 12, 2) := by decide +kernel
theorem dX12_slot_11 : decode cX12_slot 11 = .ok (.iaload, 1) := by decide +kernel
theorem dX12_slot_12 : decode cX12_slot 12 = .ok (.aload_n 0, 1) := by decide +kernel
theorem dX12_slot_13 : decode cX12_slot 13 = .ok (.getfield 13, 3) := by decide +kernel
theorem dX12_slot_16 : decode cX12_slot 16 = .ok (.bipush 13, 2) := by decide +kernel
theorem dX12_slot_18 : decode cX12_slot 18 = .ok (.iaload, 1) := by decide +kernel
theorem dX12_slot_19 : decode cX12_slot 19 = .ok (.iadd, 1) := by decide +kernel
theorem dX12_slot_20 : decode cX12_slot 20 = .ok (.if_icmp .lt 5, 3) := by decide +kernel
theorem dX12_slot_23 : decode cX12_slot 23 = .ok (.iconst (-1), 1) := by decide +kernel
theorem dX12_slot_24 : decode cX12_slot 24 = .ok (.ireturn, 1) := by decide +kernel
theorem dX12_slot_25 : decode cX12_slot 25 = .ok (.iload_n 1, 1) := by decide +kernel
theorem dX12_slot_26 : decode cX12_slot 26 = .ok (.aload_n 0, 1) := by decide +kernel
theorem dX12_slot_27 : decode cX12_slot 27 = .ok (.getfield 13, 3) := by decide +kernel
theorem dX12_slot_30 : decode cX12_slot 30 = .ok (.bipush 12, 2) := by decide +kernel
theorem dX12_slot_32 : decode cX12_slot 32 = .ok (.iaload, 1) := by decide +kernel
theorem dX12_slot_33 : decode cX12_slot 33 = .ok (.if_icmp .ge 7, 3) := by decide +kernel
theorem dX12_slot_36 : decode cX12_slot 36 = .ok (.iload_n 1, 1) := by decide +kernel
theorem dX12_slot_37 : decode cX12_slot 37 = .ok (.goto 14, 3) := by decide +kernel
theorem dX12_slot_40 : decode cX12_slot 40 = .ok (.iconst 5, 1) := by decide +kernel
theorem dX12_slot_41 : decode cX12_slot 41 = .ok (.iload_n 1, 1) := by decide +kernel
theorem dX12_slot_42 : decode cX12_slot 42 = .ok (.iadd, 1) := by decide +kernel
theorem dX12_slot_43 : decode cX12_slot 43 = .ok (.aload_n 0, 1) := by decide +kernel
theorem dX12_slot_44 : decode cX12_slot 44 = .ok (.getfield 13, 3) := by decide +kernel
theorem dX12_slot_47 : decode cX12_slot 47 = .ok (.bipush 12, 2) := by decide +kernel
theorem dX12_slot_49 : decode cX12_slot 49 = .ok (.iaload, 1) := by decide +kernel
theorem dX12_slot_50 : decode cX12_slot 50 = .ok (.isub, 1) := by decide +kernel
theorem dX12_slot_51 : decode cX12_slot 51 = .ok (.ireturn, 1) := by decide +kernel
noncomputable def b_X12_slot_0 (rec : Rk) (x1 : Int) (h : Hp) : Option (Int × Hp) :=
  if x1 < 0 then (
    some ((-1), h)
  ) else (
    ck (0 ≤ (12 : Int) ∧ (12 : Int) < 30) <|
    ck (0 ≤ (13 : Int) ∧ (13 : Int) < 30) <|
    ck (-2147483648 ≤ (gI h 61 0 12) + (gI h 61 0 13) ∧ (gI h 61 0 12) + (gI h 61 0 13) < 2147483648) <|
    if x1 < ((gI h 61 0 12) + (gI h 61 0 13)) then (
      ck (0 ≤ (12 : Int) ∧ (12 : Int) < 30) <|
      if (gI h 61 0 12) ≤ x1 then (
        ck (-2147483648 ≤ 5 + x1 ∧ 5 + x1 < 2147483648) <|
        ck (0 ≤ (12 : Int) ∧ (12 : Int) < 30) <|
        ck (-2147483648 ≤ (5 + x1) - (gI h 61 0 12) ∧ (5 + x1) - (gI h 61 0 12) < 2147483648) <|
        some ((5 + x1) - (gI h 61 0 12), h)
      ) else (
        some (x1, h)
      )
    ) else (
      some ((-1), h)
    )
  )
noncomputable def g_X12_slot (n : Nat) : Rk := Nat.rec (motive := fun _ => Rk) (fun _ _ _ => none) (fun _ rec k l h => if k = 0 then b_X12_slot_0 rec (l.getD 0 0) h else none) n
noncomputable def f_X12_slot (x1 : Int) (h : Hp) : Option (Int × Hp) := g_X12_slot FU 0 [x1] h
set_option maxHeartbeats 4000000 in
set_option maxRecDepth 100000 in
theorem t_X12_slot_0 (E : xE) (d : Nat) (rec : Rk) (r : Int × Hp) (x1 : Int) (h : Hp) (hL : Lay h) (hF : b_X12_slot_0 rec x1 h = some r) : X E mX12_slot (d + 1) (0, 0) (0, 0) 0 [some (xr 12 0), some (xi x1)] [] h (PoI r) := by
  unfold b_X12_slot_0 at hF
  refine x_iload_n (i := 1) (b := 1) dX12_slot_0 rfl rfl rfl ?_
  refine x_if_lt (tgt := 23) (b := 4) dX12_slot_1 (by decide) rfl (fun hc => ?_) (fun hc => ?_)
  · replace hF := br_T hc hF
    refine x_iconst (n := (-1)) (b := 24) dX12_slot_23 (by decide) rfl ?_
    refine x_ireturn dX12_slot_24 rfl ⟨Nat.le_refl _, Nat.le_refl _⟩ ?_
    cases hF
    exact ⟨rfl, rfl, hL⟩
  · replace hF := br_F hc hF
    refine x_iload_n (i := 1) (b := 5) dX12_slot_4 rfl rfl rfl ?_
    refine x_aload_n (i := 0) (b := 6) dX12_slot_5 rfl rfl rfl ?_
    refine x_getL (j := 0) (t := (61, 0, true)) (b := 9) fk_X12_13 dX12_slot_6 rfl hL rfl rfl rfl ?_
    refine x_bipush (n := 12) (b := 11) dX12_slot_9 (by decide) rfl ?_
    obtain ⟨hs, hF⟩ := ck_e hF
    refine x_iald (v := gI h 61 0 12) (b := 12) ak_61 dX12_slot_11 hs rfl rfl ?_
    refine x_aload_n (i := 0) (b := 13) dX12_slot_12 rfl rfl rfl ?_
    refine x_getL (j := 0) (t := (61, 0, true)) (b := 16) fk_X12_13 dX12_slot_13 rfl hL rfl rfl rfl ?_
    refine x_bipush (n := 13) (b := 18) dX12_slot_16 (by decide) rfl ?_
    obtain ⟨hs, hF⟩ := ck_e hF
    refine x_iald (v := gI h 61 0 13) (b := 19) ak_61 dX12_slot_18 hs rfl rfl ?_
    obtain ⟨hs, hF⟩ := ck_e hF
    refine x_iadd (b := 20) dX12_slot_19 hs rfl ?_
    refine x_icmp_lt (tgt := 25) (b := 23) dX12_slot_20 (by decide) rfl (fun hc => ?_) (fun hc => ?_)
    · replace hF := br_T hc hF
      refine x_iload_n (i := 1) (b := 26) dX12_slot_25 rfl rfl rfl ?_
      refine x_aload_n (i := 0) (b := 27) dX12_slot_26 rfl rfl rfl ?_
      refine x_getL (j := 0) (t := (61, 0, true)) (b := 30) fk_X12_13 dX12_slot_27 rfl hL rfl rfl rfl ?_
      refine x_bipush (n := 12) (b := 32) dX12_slot_30 (by decide) rfl ?_
      obtain ⟨hs, hF⟩ := ck_e hF
      refine x_iald (v := gI h 61 0 12) (b := 33) ak_61 dX12_slot_32 hs rfl rfl ?_
      refine x_icmp_ge (tgt := 40) (b := 36) dX12_slot_33 (by decide) rfl (fun hc => ?_) (fun hc => ?_)
      · replace hF := br_T hc hF
        refine x_iconst (n := 5) (b := 41) dX12_slot_40 (by decide) rfl ?_
        refine x_iload_n (i := 1) (b := 42) dX12_slot_41 rfl rfl rfl ?_
        obtain ⟨hs, hF⟩ := ck_e hF
        refine x_iadd (b := 43) dX12_slot_42 hs rfl ?_
        refine x_aload_n (i := 0) (b := 44) dX12_slot_43 rfl rfl rfl ?_
        refine x_getL (j := 0) (t := (61, 0, true)) (b := 47) fk_X12_13 dX12_slot_44 rfl hL rfl rfl rfl ?_
        refine x_bipush (n := 12) (b := 49) dX12_slot_47 (by decide) rfl ?_
        obtain ⟨hs, hF⟩ := ck_e hF
        refine x_iald (v := gI h 61 0 12) (b := 50) ak_61 dX12_slot_49 hs rfl rfl ?_
        obtain ⟨hs, hF⟩ := ck_e hF
        refine x_isub (b := 51) dX12_slot_50 hs rfl ?_
        refine x_ireturn dX12_slot_51 rfl ⟨Nat.le_refl _, Nat.le_refl _⟩ ?_
        cases hF
        exact ⟨rfl, rfl, hL⟩
      · replace hF := br_F hc hF
        refine x_iload_n (i := 1) (b := 37) dX12_slot_36 rfl rfl rfl ?_
        refine x_goto (tgt := 51) dX12_slot_37 (by decide) ?_
        refine x_ireturn dX12_slot_51 rfl ⟨Nat.le_refl _, Nat.le_refl _⟩ ?_
        cases hF
        exact ⟨rfl, rfl, hL⟩
    · replace hF := br_F hc hF
      refine x_iconst (n := (-1)) (b := 24) dX12_slot_23 (by decide) rfl ?_
      refine x_ireturn dX12_slot_24 rfl ⟨Nat.le_refl _, Nat.le_refl _⟩ ?_
      cases hF
      exact ⟨rfl, rfl, hL⟩
set_option maxHeartbeats 4000000 in
set_option maxRecDepth 100000 in
theorem u_X12_slot (E : xE) (d : Nat) (r : Int × Hp) : ∀ n : Nat, (∀ (x1 : Int) (h : Hp), Lay h → g_X12_slot n 0 [x1] h = some r → X E mX12_slot (d + 1) (0, 0) (0, 0) 0 [some (xr 12 0), some (xi x1)] [] h (PoI r)) := by
  intro n
  induction n with
  | zero => exact fun _ _ _ hF => no_e (r := r) hF
  | succ n ih => exact fun x1 h hL hF => t_X12_slot_0 E d (g_X12_slot n) r  x1 h hL hF
theorem c_X12_slot (d : Nat) (x1 : Int) (h : Hp) (r : Int × Hp) (hL : Lay h) (hF : f_X12_slot x1 h = some r) : Sp mX12_slot (d + 1) (0, 0) [xr 12 0, xi x1] h (PoI r) :=
  sp_of (by decide) rfl (Nat.le_of_ble_eq_true rfl) (ls := [some (xr 12 0), some (xi x1)]) rfl (fun E _ => (u_X12_slot E d r FU) x1 h hL hF)
theorem dX12_strike_0 : decode cX12_strike 0 = .ok (.aload_n 0, 1) := by decide +kernel
theorem dX12_strike_1 : decode cX12_strike 1 = .ok (.iconst 0, 1) := by decide +kernel
theorem dX12_strike_2 : decode cX12_strike 2 = .ok (.putfield 194, 3) := by decide +kernel
theorem dX12_strike_5 : decode cX12_strike 5 = .ok (.iload_n 1, 1) := by decide +kernel
theorem dX12_strike_6 : decode cX12_strike 6 = .ok (.ifCond .lt 20, 3) := by decide +kernel
theorem dX12_strike_9 : decode cX12_strike 9 = .ok (.iload_n 1, 1) := by decide +kernel
theorem dX12_strike_10 : decode cX12_strike 10 = .ok (.aload_n 0, 1) := by decide +kernel
theorem dX12_strike_11 : decode cX12_strike 11 = .ok (.getfield 364, 3) := by decide +kernel
theorem dX12_strike_14 : decode cX12_strike 14 = .ok (.if_icmp .ge 12, 3) := by decide +kernel
theorem dX12_strike_17 : decode cX12_strike 17 = .ok (.aload_n 0, 1) := by decide +kernel
theorem dX12_strike_18 : decode cX12_strike 18 = .ok (.getfield 364, 3) := by decide +kernel
theorem dX12_strike_21 : decode cX12_strike 21 = .ok (.bipush 32, 2) := by decide +kernel
theorem dX12_strike_23 : decode cX12_strike 23 = .ok (.if_icmp .ne 7, 3) := by decide +kernel
theorem dX12_strike_26 : decode cX12_strike 26 = .ok (.iconst (-1), 1) := by decide +kernel
theorem dX12_strike_27 : decode cX12_strike 27 = .ok (.goto 10, 3) := by decide +kernel
theorem dX12_strike_30 : decode cX12_strike 30 = .ok (.aload_n 0, 1) := by decide +kernel
theorem dX12_strike_31 : decode cX12_strike 31 = .ok (.iconst 2, 1) := by decide +kernel
theorem dX12_strike_32 : decode cX12_strike 32 = .ok (.iconst 0, 1) := by decide +kernel
theorem dX12_strike_33 : decode cX12_strike 33 = .ok (.iload_n 1, 1) := by decide +kernel
theorem dX12_strike_34 : decode cX12_strike 34 = .ok (.invokevirtual 495, 3) := by decide +kernel
theorem dX12_strike_37 : decode cX12_strike 37 = .ok (.ireturn, 1) := by decide +kernel
noncomputable def b_X12_strike_0 (rec : Rk) (x1 : Int) (h : Hp) : Option (Int × Hp) :=
  lt (sI h 12 0 0 0) fun h1 =>
  if x1 < 0 then (
    rec 1 [] h1
  ) else (
    if (gI h1 12 0 74) ≤ x1 then (
      rec 1 [] h1
    ) else (
      if (gI h1 12 0 74) = 32 then (
        rec 1 [] h1
      ) else (
        bd (f_X12_added 2 0 x1 h1) fun v2 h3 =>
        some (v2, h3)
      )
    )
  )
noncomputable def b_X12_strike_1 (rec : Rk) (h : Hp) : Option (Int × Hp) :=
  some ((-1), h)
noncomputable def g_X12_strike (n : Nat) : Rk := Nat.rec (motive := fun _ => Rk) (fun _ _ _ => none) (fun _ rec k l h => if k = 0 then b_X12_strike_0 rec (l.getD 0 0) h else if k = 1 then b_X12_strike_1 rec  h else none) n
noncomputable def f_X12_strike (x1 : Int) (h : Hp) : Option (Int × Hp) := g_X12_strike FU 0 [x1] h
set_option maxHeartbeats 4000000 in
set_option maxRecDepth 100000 in
theorem t_X12_strike_0 (E : xE) (d : Nat) (rec : Rk) (r : Int × Hp) (hr_26 : ∀ (h : Hp), Lay h → rec 1 [] h = some r → X E mX12_strike (d + 2) (0, 0) (0, 0) 26 [none, none] [] h (PoI r)) (x1 : Int) (h : Hp) (hL : Lay h) (hF : b_X12_strike_0 rec x1 h = some r) : X E mX12_strike (d + 2) (0, 0) (0, 0) 0 [some (xr 12 0), some (xi x1)] [] h (PoI r) := by
  unfold b_X12_strike_0 at hF
  refine x_aload_n (i := 0) (b := 1) dX12_strike_0 rfl rfl rfl ?_
  refine x_iconst (n := 0) (b := 2) dX12_strike_1 (by decide) rfl ?_
  refine x_putI (b := 5) fk_X12_194 dX12_strike_2 rfl rfl 0 rfl ?_
  obtain ⟨h1, e_h1, hF⟩ := lt_e hF
  refine x_hp (h2 := h1) e_h1 ?_
  replace hL : Lay h1 := by rw [← e_h1]; exact hL
  refine x_iload_n (i := 1) (b := 6) dX12_strike_5 rfl rfl rfl ?_
  refine x_if_lt (tgt := 26) (b := 9) dX12_strike_6 (by decide) rfl (fun hc => ?_) (fun hc => ?_)
  · replace hF := br_T hc hF
    exact x_dp (ls2 := [none, none]) trivial (hr_26  h1 hL hF)
  · replace hF := br_F hc hF
    refine x_iload_n (i := 1) (b := 10) dX12_strike_9 rfl rfl rfl ?_
    refine x_aload_n (i := 0) (b := 11) dX12_strike_10 rfl rfl rfl ?_
    refine x_getI (v := gI h1 12 0 74) (b := 14) fk_X12_364 dX12_strike_11 (by decide) rfl rfl ?_
    refine x_icmp_ge (tgt := 26) (b := 17) dX12_strike_14 (by decide) rfl (fun hc => ?_) (fun hc => ?_)
    · replace hF := br_T hc hF
      exact x_dp (ls2 := [none, none]) trivial (hr_26  h1 hL hF)
    · replace hF := br_F hc hF
      refine x_aload_n (i := 0) (b := 18) dX12_strike_17 rfl rfl rfl ?_
      refine x_getI (v := gI h1 12 0 74) (b := 21) fk_X12_364 dX12_strike_18 (by decide) rfl rfl ?_
      refine x_bipush (n := 32) (b := 23) dX12_strike_21 (by decide) rfl ?_
      refine x_icmp_ne (tgt := 30) (b := 26) dX12_strike_23 (by decide) rfl (fun hc => ?_) (fun hc => ?_)
      · replace hF := br_F hc hF
        refine x_aload_n (i := 0) (b := 31) dX12_strike_30 rfl rfl rfl ?_
        refine x_iconst (n := 2) (b := 32) dX12_strike_31 (by decide) rfl ?_
        refine x_iconst (n := 0) (b := 33) dX12_strike_32 (by decide) rfl ?_
        refine x_iload_n (i := 1) (b := 34) dX12_strike_33 rfl rfl rfl ?_
        obtain ⟨v2, h3, hq, hF⟩ := bd_e hF
        refine x_callV (as := [xi 2, xi 0, xi x1]) (rest := []) (b := 37) (c_X12_added d 2 0 x1 h1 _ hL hq) dX12_strike_34 cw_X12_495 ⟨_, _, rfl, Nat.le_of_ble_eq_true rfl⟩ rfl rfl (Nat.le_of_ble_eq_true rfl) ⟨Nat.le_refl _, Nat.le_refl _⟩ rfl (fun rv hh hp _ => ?_)
        obtain ⟨rfl, rfl, hL⟩ := hp
        refine x_ireturn dX12_strike_37 rfl ⟨Nat.le_refl _, Nat.le_refl _⟩ ?_
        cases hF
        exact ⟨rfl, rfl, hL⟩
      · replace hF := br_T hc hF
        exact x_dp (ls2 := [none, none]) trivial (hr_26  h1 hL hF)
set_option maxHeartbeats 4000000 in
set_option maxRecDepth 100000 in
theorem t_X12_strike_1 (E : xE) (d : Nat) (rec : Rk) (r : Int × Hp) (h : Hp) (hL : Lay h) (hF : b_X12_strike_1 rec  h = some r) : X E mX12_strike (d + 2) (0, 0) (0, 0) 26 [none, none] [] h (PoI r) := by
  unfold b_X12_strike_1 at hF
  refine x_iconst (n := (-1)) (b := 27) dX12_strike_26 (by decide) rfl ?_
  refine x_goto (tgt := 37) dX12_strike_27 (by decide) ?_
  refine x_ireturn dX12_strike_37 rfl ⟨Nat.le_refl _, Nat.le_refl _⟩ ?_
  cases hF
  exact ⟨rfl, rfl, hL⟩
set_option maxHeartbeats 4000000 in
set_option maxRecDepth 100000 in
theorem u_X12_strike (E : xE) (d : Nat) (r : Int × Hp) : ∀ n : Nat, (∀ (x1 : Int) (h : Hp), Lay h → g_X12_strike n 0 [x1] h = some r → X E mX12_strike (d + 2) (0, 0) (0, 0) 0 [some (xr 12 0), some (xi x1)] [] h (PoI r)) ∧ (∀ (h : Hp), Lay h → g_X12_strike n 1 [] h = some r → X E mX12_strike (d + 2) (0, 0) (0, 0) 26 [none, none] [] h (PoI r)) := by
  intro n
  induction n with
  | zero => exact ⟨fun _ _ _ hF => no_e (r := r) hF, fun _ _ hF => no_e (r := r) hF⟩
  | succ n ih => exact ⟨fun x1 h hL hF => t_X12_strike_0 E d (g_X12_strike n) r ih.2 x1 h hL hF, fun h hL hF => t_X12_strike_1 E d (g_X12_strike n) r   h hL hF⟩
theorem c_X12_strike (d : Nat) (x1 : Int) (h : Hp) (r : Int × Hp) (hL : Lay h) (hF : f_X12_strike x1 h = some r) : Sp mX12_strike (d + 2) (0, 0) [xr 12 0, xi x1] h (PoI r) :=
  sp_of (by decide) rfl (Nat.le_of_ble_eq_true rfl) (ls := [some (xr 12 0), some (xi x1)]) rfl (fun E _ => (u_X12_strike E d r FU).1 x1 h hL hF)
theorem dX12_strikes_0 : decode cX12_strikes 0 = .ok (.iconst 0, 1) := by decide +kernel
theorem dX12_strikes_1 : decode cX12_strikes 1 = .ok (.istore_n 1, 1) := by decide +kernel
theorem dX12_strikes_2 : decode cX12_strikes 2 = .ok (.iload_n 1, 1) := by decide +kernel
theorem dX12_strikes_3 : decode cX12_strikes 3 = .ok (.aload_n 0, 1) := by decide +kernel
theorem dX12_strikes_4 : decode cX12_strikes 4 = .ok (.invokevirtual 499, 3) := by decide +kernel
theorem dX12_strikes_7 : decode cX12_strikes 7 = .ok (.if_icmp .ge 16, 3) := by decide +kernel
theorem dX12_strikes_10 : decode cX12_strikes 10 = .ok (.aload_n 0, 1) := by decide +kernel
theorem dX12_strikes_11 : decode cX12_strikes 11 = .ok (.getfield 184, 3) := by decide +kernel
theorem dX12_strikes_14 : decode cX12_strikes 14 = .ok (.iload_n 1, 1) := by decide +kernel
theorem dX12_strikes_15 : decode cX12_strikes 15 = .ok (.iconst 0, 1) := by decide +kernel
theorem dX12_strikes_16 : decode cX12_strikes 16 = .ok (.bastore, 1) := by decide +kernel
theorem dX12_strikes_17 : decode cX12_strikes 17 = .ok (.iinc 1 1, 3) := by decide +kernel
theorem dX12_strikes_20 : decode cX12_strikes 20 = .ok (.goto (-18), 3) := by decide +kernel
theorem dX12_strikes_23 : decode cX12_strikes 23 = .ok (.aload_n 0, 1) := by decide +kernel
theorem dX12_strikes_24 : decode cX12_strikes 24 = .ok (.invokevirtual 499, 3) := by decide +kernel
theorem dX12_strikes_27 : decode cX12_strikes 27 = .ok (.iconst 1, 1) := by decide +kernel
theorem dX12_strikes_28 : decode cX12_strikes 28 = .ok (.isub, 1) := by decide +kernel
theorem dX12_strikes_29 : decode cX12_strikes 29 = .ok (.istore_n 1, 1) := by decide +kernel
theorem dX12_strikes_30 : decode cX12_strikes 30 = .ok (.iload_n 1, 1) := by decide +kernel
theorem dX12_strikes_31 : decode cX12_strikes 31 = .ok (.ifCond .lt 40, 3) := by decide +kernel
theorem dX12_strikes_34 : decode cX12_strikes 34 = .ok (.aload_n 0, 1) := by decide +kernel
theorem dX12_strikes_35 : decode cX12_strikes 35 = .ok (.getfield 184, 3) := by decide +kernel
theorem dX12_strikes_38 : decode cX12_strikes 38 = .ok (.iload_n 1, 1) := by decide +kernel
theorem dX12_strikes_39 : decode cX12_strikes 39 = .ok (.baload, 1) := by decide +kernel
theorem dX12_strikes_40 : decode cX12_strikes 40 = .ok (.ifCond .ne 25, 3) := by decide +kernel
theorem dX12_strikes_43 : decode cX12_strikes 43 = .ok (.aload_n 0, 1) := by decide +kernel
theorem dX12_strikes_44 : decode cX12_strikes 44 = .ok (.getfield 178, 3) := by decide +kernel
theorem dX12_strikes_47 : decode cX12_strikes 47 = .ok (.iload_n 1, 1) := by decide +kernel
theorem dX12_strikes_48 : decode cX12_strikes 48 = .ok (.iaload, 1) := by decide +kernel
theorem dX12_strikes_49 : decode cX12_strikes 49 = .ok (.iconst 2, 1) := by decide +kernel
theorem dX12_strikes_50 : decode cX12_strikes 50 = .ok (.if_icmp .ne 15, 3) := by decide +kernel
theorem dX12_strikes_53 : decode cX12_strikes 53 = .ok (.aload_n 0, 1) := by decide +kernel
theorem dX12_strikes_54 : decode cX12_strikes 54 = .ok (.getfield 184, 3) := by decide +kernel
theorem dX12_strikes_57 : decode cX12_strikes 57 = .ok (.aload_n 0, 1) := by decide +kernel
theorem dX12_strikes_58 : decode cX12_strikes 58 = .ok (.getfield 181, 3) := by decide +kernel
theorem dX12_strikes_61 : decode cX12_strikes 61 = .ok (.iload_n 1, 1) := by decide +kernel
theorem dX12_strikes_62 : decode cX12_strikes 62 = .ok (.iaload, 1) := by decide +kernel
theorem dX12_strikes_63 : decode cX12_strikes 63 = .ok (.iconst 1, 1) := by decide +kernel
theorem dX12_strikes_64 : decode cX12_strikes 64 = .ok (.bastore, 1) := by decide +kernel
theorem dX12_strikes_65 : decode cX12_strikes 65 = .ok (.iinc 1 (-1), 3) := by decide +kernel
theorem dX12_strikes_68 : decode cX12_strikes 68 = .ok (.goto (-38), 3) := by decide +kernel
theorem dX12_strikes_71 : decode cX12_strikes 71 = .ok (.return_, 1) := by decide +kernel
noncomputable def b_X12_strikes_0 (rec : Rk) (h : Hp) : Option (Int × Hp) :=
  rec 1 [0] h
noncomputable def b_X12_strikes_1 (rec : Rk) (x1 : Int) (h : Hp) : Option (Int × Hp) :=
  bd (f_X12_knownMany h) fun v1 h2 =>
  if v1 ≤ x1 then (
    bd (f_X12_knownMany h2) fun v3 h4 =>
    ck (-2147483648 ≤ v3 - 1 ∧ v3 - 1 < 2147483648) <|
    lt (v3 - 1) fun z5 =>
    rec 2 [z5] h4
  ) else (
    ck (0 ≤ x1 ∧ x1 < 32) <|
    lt (sI h2 113 0 x1 0) fun h6 =>
    ck (-2147483648 ≤ x1 + 1 ∧ x1 + 1 < 2147483648) <|
    rec 1 [x1 + 1] h6
  )
noncomputable def b_X12_strikes_2 (rec : Rk) (x1 : Int) (h : Hp) : Option (Int × Hp) :=
  if x1 < 0 then (
    some (0, h)
  ) else (
    ck (0 ≤ x1 ∧ x1 < 32) <|
    if (gI h 113 0 x1) = 0 then (
      ck (0 ≤ x1 ∧ x1 < 32) <|
      if (gI h 111 0 x1) = 2 then (
        ck (0 ≤ x1 ∧ x1 < 32) <|
        ck (0 ≤ (gI h 112 0 x1) ∧ (gI h 112 0 x1) < 32) <|
        lt (sI h 113 0 (gI h 112 0 x1) 1) fun h1 =>
        rec 3 [x1] h1
      ) else (
        rec 3 [x1] h
      )
    ) else (
      rec 3 [x1] h
    )
  )
noncomputable def b_X12_strikes_3 (rec : Rk) (x1 : Int) (h : Hp) : Option (Int × Hp) :=
  ck (-2147483648 ≤ x1 + (-1) ∧ x1 + (-1) < 2147483648) <|
  rec 2 [x1 + (-1)] h
noncomputable def g_X12_strikes (n : Nat) : Rk := Nat.rec (motive := fun _ => Rk) (fun _ _ _ => none) (fun _ rec k l h => if k = 0 then b_X12_strikes_0 rec  h else if k = 1 then b_X12_strikes_1 rec (l.getD 0 0) h else if k = 2 then b_X12_strikes_2 rec (l.getD 0 0) h else if k = 3 then b_X12_strikes_3 rec (l.getD 0 0) h else none) n
noncomputable def f_X12_strikes (h : Hp) : Option (Int × Hp) := g_X12_strikes FU 0 [] h
set_option maxHeartbeats 4000000 in
set_option maxRecDepth 100000 in
theorem t_X12_strikes_0 (E : xE) (d : Nat) (rec : Rk) (r : Int × Hp) (hr_2 : ∀ (x1 : Int) (h : Hp), Lay h → rec 1 [x1] h = some r → X E mX12_strikes (d + 2) (0, 0) (0, 0) 2 [some (xr 12 0), some (xi x1)] [] h (PoV r)) (h : Hp) (hL : Lay h) (hF : b_X12_strikes_0 rec  h = some r) : X E mX12_strikes (d + 2) (0, 0) (0, 0) 0 [some (xr 12 0), none] [] h (PoV r) := by
  unfold b_X12_strikes_0 at hF
  refine x_iconst (n := 0) (b := 1) dX12_strikes_0 (by decide) rfl ?_
  refine x_istore_n (i := 1) (b := 2) (ls2 := [some (xr 12 0), some (xi 0)]) dX12_strikes_1 rfl (Nat.le_of_ble_eq_true rfl) rfl rfl ?_
  exact x_dp (ls2 := [some (xr 12 0), some (xi 0)]) ⟨rfl, rfl, trivial⟩ (hr_2 0 h hL hF)
set_option maxHeartbeats 4000000 in
set_option maxRecDepth 100000 in
theorem t_X12_strikes_1 (E : xE) (d : Nat) (rec : Rk) (r : Int × Hp) (hr_2 : ∀ (x1 : Int) (h : Hp), Lay h → rec 1 [x1] h = some r → X E mX12_strikes (d + 2) (0, 0) (0, 0) 2 [some (xr 12 0), some (xi x1)] [] h (PoV r)) (hr_30 : ∀ (x1 : Int) (h : Hp), Lay h → rec 2 [x1] h = some r → X E mX12_strikes (d + 2) (0, 0) (0, 0) 30 [some (xr 12 0), some (xi x1)] [] h (PoV r)) (x1 : Int) (h : Hp) (hL : Lay h) (hF : b_X12_strikes_1 rec x1 h = some r) : X E mX12_strikes (d + 2) (0, 0) (0, 0) 2 [some (xr 12 0), some (xi x1)] [] h (PoV r) := by
  unfold b_X12_strikes_1 at hF
  refine x_iload_n (i := 1) (b := 3) dX12_strikes_2 rfl rfl rfl ?_
  refine x_aload_n (i := 0) (b := 4) dX12_strikes_3 rfl rfl rfl ?_
  obtain ⟨v1, h2, hq, hF⟩ := bd_e hF
  refine x_callV (as := []) (rest := [xi x1]) (b := 7) (c_X12_knownMany d h _ hL hq) dX12_strikes_4 cw_X12_499 ⟨_, _, rfl, Nat.le_of_ble_eq_true rfl⟩ rfl rfl (Nat.le_of_ble_eq_true rfl) ⟨Nat.le_refl _, Nat.le_refl _⟩ rfl (fun rv hh hp _ => ?_)
  obtain ⟨rfl, rfl, hL⟩ := hp
  refine x_icmp_ge (tgt := 23) (b := 10) dX12_strikes_7 (by decide) rfl (fun hc => ?_) (fun hc => ?_)
  · replace hF := br_T hc hF
    refine x_aload_n (i := 0) (b := 24) dX12_strikes_23 rfl rfl rfl ?_
    obtain ⟨v3, h4, hq, hF⟩ := bd_e hF
    refine x_callV (as := []) (rest := []) (b := 27) (c_X12_knownMany d h2 _ hL hq) dX12_strikes_24 cw_X12_499 ⟨_, _, rfl, Nat.le_of_ble_eq_true rfl⟩ rfl rfl (Nat.le_of_ble_eq_true rfl) ⟨Nat.le_refl _, Nat.le_refl _⟩ rfl (fun rv hh hp _ => ?_)
    obtain ⟨rfl, rfl, hL⟩ := hp
    refine x_iconst (n := 1) (b := 28) dX12_strikes_27 (by decide) rfl ?_
    obtain ⟨hs, hF⟩ := ck_e hF
    refine x_isub (b := 29) dX12_strikes_28 hs rfl ?_
    obtain ⟨z5, e_z5, hF⟩ := lt_e hF
    refine x_eq (y := z5) e_z5 ?_
    refine x_istore_n (i := 1) (b := 30) (ls2 := [some (xr 12 0), some (xi z5)]) dX12_strikes_29 rfl (Nat.le_of_ble_eq_true rfl) rfl rfl ?_
    exact x_dp (ls2 := [some (xr 12 0), some (xi z5)]) ⟨rfl, rfl, trivial⟩ (hr_30 z5 h4 hL hF)
  · replace hF := br_F hc hF
    refine x_aload_n (i := 0) (b := 11) dX12_strikes_10 rfl rfl rfl ?_
    refine x_getL (j := 0) (t := (113, 0, true)) (b := 14) fk_X12_184 dX12_strikes_11 rfl hL rfl rfl rfl ?_
    refine x_iload_n (i := 1) (b := 15) dX12_strikes_14 rfl rfl rfl ?_
    refine x_iconst (n := 0) (b := 16) dX12_strikes_15 (by decide) rfl ?_
    obtain ⟨hs, hF⟩ := ck_e hF
    have hs1 := hs
    refine x_zast (b := 17) ak_113 dX12_strikes_16 hs1 (by decide) rfl ?_
    obtain ⟨h6, e_h6, hF⟩ := lt_e hF
    refine x_hp (h2 := h6) e_h6 ?_
    replace hL : Lay h6 := by rw [← e_h6]; exact hL
    obtain ⟨hs, hF⟩ := ck_e hF
    refine x_iinc (i := 1) (b := 20) (ls2 := [some (xr 12 0), some (xi (x1 + 1))]) dX12_strikes_17 rfl (Nat.le_of_ble_eq_true rfl) hs rfl rfl ?_
    refine x_goto (tgt := 2) dX12_strikes_20 (by decide) ?_
    exact x_dp (ls2 := [some (xr 12 0), some (xi (x1 + 1))]) ⟨rfl, rfl, trivial⟩ (hr_2 (x1 + 1) h6 hL hF)
set_option maxHeartbeats 4000000 in
set_option maxRecDepth 100000 in
theorem t_X12_strikes_2 (E : xE) (d : Nat) (rec : Rk) (r : Int × Hp) (hr_65 : ∀ (x1 : Int) (h : Hp), Lay h → rec 3 [x1] h = some r → X E mX12_strikes (d + 2) (0, 0) (0, 0) 65 [some (xr 12 0), some (xi x1)] [] h (PoV r)) (x1 : Int) (h : Hp) (hL : Lay h) (hF : b_X12_strikes_2 rec x1 h = some r) : X E mX12_strikes (d + 2) (0, 0) (0, 0) 30 [some (xr 12 0), some (xi x1)] [] h (PoV r) := by
  unfold b_X12_strikes_2 at hF
  refine x_iload_n (i := 1) (b := 31) dX12_strikes_30 rfl rfl rfl ?_
  refine x_if_lt (tgt := 71) (b := 34) dX12_strikes_31 (by decide) rfl (fun hc => ?_) (fun hc => ?_)
  · replace hF := br_T hc hF
    refine x_return dX12_strikes_71 rfl ⟨Nat.le_refl _, Nat.le_refl _⟩ ?_
    cases hF
    exact ⟨rfl, rfl, hL⟩
  · replace hF := br_F hc hF
    refine x_aload_n (i := 0) (b := 35) dX12_strikes_34 rfl rfl rfl ?_
    refine x_getL (j := 0) (t := (113, 0, true)) (b := 38) fk_X12_184 dX12_strikes_35 rfl hL rfl rfl rfl ?_
    refine x_iload_n (i := 1) (b := 39) dX12_strikes_38 rfl rfl rfl ?_
    obtain ⟨hs, hF⟩ := ck_e hF
    refine x_zald (v := gI h 113 0 x1) (b := 40) ak_113 dX12_strikes_39 hs rfl rfl ?_
    refine x_if_ne (tgt := 65) (b := 43) dX12_strikes_40 (by decide) rfl (fun hc => ?_) (fun hc => ?_)
    · replace hF := br_F hc hF
      exact x_dp (ls2 := [some (xr 12 0), some (xi x1)]) ⟨rfl, rfl, trivial⟩ (hr_65 x1 h hL hF)
    · replace hF := br_T hc hF
      refine x_aload_n (i := 0) (b := 44) dX12_strikes_43 rfl rfl rfl ?_
      refine x_getL (j := 0) (t := (111, 0, true)) (b := 47) fk_X12_178 dX12_strikes_44 rfl hL rfl rfl rfl ?_
      refine x_iload_n (i := 1) (b := 48) dX12_strikes_47 rfl rfl rfl ?_
      obtain ⟨hs, hF⟩ := ck_e hF
      refine x_iald (v := gI h 111 0 x1) (b := 49) ak_111 dX12_strikes_48 hs rfl rfl ?_
      refine x_iconst (n := 2) (b := 50) dX12_strikes_49 (by decide) rfl ?_
      refine x_icmp_ne (tgt := 65) (b := 53) dX12_strikes_50 (by decide) rfl (fun hc => ?_) (fun hc => ?_)
      · replace hF := br_F hc hF
        exact x_dp (ls2 := [some (xr 12 0), some (xi x1)]) ⟨rfl, rfl, trivial⟩ (hr_65 x1 h hL hF)
      · replace hF := br_T hc hF
        refine x_aload_n (i := 0) (b := 54) dX12_strikes_53 rfl rfl rfl ?_
        refine x_getL (j := 0) (t := (113, 0, true)) (b := 57) fk_X12_184 dX12_strikes_54 rfl hL rfl rfl rfl ?_
        refine x_aload_n (i := 0) (b := 58) dX12_strikes_57 rfl rfl rfl ?_
        refine x_getL (j := 0) (t := (112, 0, true)) (b := 61) fk_X12_181 dX12_strikes_58 rfl hL rfl rfl rfl ?_
        refine x_iload_n (i := 1) (b := 62) dX12_strikes_61 rfl rfl rfl ?_
        obtain ⟨hs, hF⟩ := ck_e hF
        refine x_iald (v := gI h 112 0 x1) (b := 63) ak_112 dX12_strikes_62 hs rfl rfl ?_
        refine x_iconst (n := 1) (b := 64) dX12_strikes_63 (by decide) rfl ?_
        obtain ⟨hs, hF⟩ := ck_e hF
        have hs1 := hs
        refine x_zast (b := 65) ak_113 dX12_strikes_64 hs1 (by decide) rfl ?_
        obtain ⟨h1, e_h1, hF⟩ := lt_e hF
        refine x_hp (h2 := h1) e_h1 ?_
        replace hL : Lay h1 := by rw [← e_h1]; exact hL
        exact x_dp (ls2 := [some (xr 12 0), some (xi x1)]) ⟨rfl, rfl, trivial⟩ (hr_65 x1 h1 hL hF)
set_option maxHeartbeats 4000000 in
set_option maxRecDepth 100000 in
theorem t_X12_strikes_3 (E : xE) (d : Nat) (rec : Rk) (r : Int × Hp) (hr_30 : ∀ (x1 : Int) (h : Hp), Lay h → rec 2 [x1] h = some r → X E mX12_strikes (d + 2) (0, 0) (0, 0) 30 [some (xr 12 0), some (xi x1)] [] h (PoV r)) (x1 : Int) (h : Hp) (hL : Lay h) (hF : b_X12_strikes_3 rec x1 h = some r) : X E mX12_strikes (d + 2) (0, 0) (0, 0) 65 [some (xr 12 0), some (xi x1)] [] h (PoV r) := by
  unfold b_X12_strikes_3 at hF
  obtain ⟨hs, hF⟩ := ck_e hF
  refine x_iinc (i := 1) (b := 68) (ls2 := [some (xr 12 0), some (xi (x1 + (-1)))]) dX12_strikes_65 rfl (Nat.le_of_ble_eq_true rfl) hs rfl rfl ?_
  refine x_goto (tgt := 30) dX12_strikes_68 (by decide) ?_
  exact x_dp (ls2 := [some (xr 12 0), some (xi (x1 + (-1)))]) ⟨rfl, rfl, trivial⟩ (hr_30 (x1 + (-1)) h hL hF)
set_option maxHeartbeats 4000000 in
set_option maxRecDepth 100000 in
theorem u_X12_strikes (E : xE) (d : Nat) (r : Int × Hp) : ∀ n : Nat, (∀ (h : Hp), Lay h → g_X12_strikes n 0 [] h = some r → X E mX12_strikes (d + 2) (0, 0) (0, 0) 0 [some (xr 12 0), none] [] h (PoV r)) ∧ (∀ (x1 : Int) (h : Hp), Lay h → g_X12_strikes n 1 [x1] h = some r → X E mX12_strikes (d + 2) (0, 0) (0, 0) 2 [some (xr 12 0), some (xi x1)] [] h (PoV r)) ∧ (∀ (x1 : Int) (h : Hp), Lay h → g_X12_strikes n 2 [x1] h = some r → X E mX12_strikes (d + 2) (0, 0) (0, 0) 30 [some (xr 12 0), some (xi x1)] [] h (PoV r)) ∧ (∀ (x1 : Int) (h : Hp), Lay h → g_X12_strikes n 3 [x1] h = some r → X E mX12_strikes (d + 2) (0, 0) (0, 0) 65 [some (xr 12 0), some (xi x1)] [] h (PoV r)) := by
  intro n
  induction n with
  | zero => exact ⟨fun _ _ hF => no_e (r := r) hF, fun _ _ _ hF => no_e (r := r) hF, fun _ _ _ hF => no_e (r := r) hF, fun _ _ _ hF => no_e (r := r) hF⟩
  | succ n ih => exact ⟨fun h hL hF => t_X12_strikes_0 E d (g_X12_strikes n) r ih.2.1  h hL hF, fun x1 h hL hF => t_X12_strikes_1 E d (g_X12_strikes n) r ih.2.1 ih.2.2.1 x1 h hL hF, fun x1 h hL hF => t_X12_strikes_2 E d (g_X12_strikes n) r ih.2.2.2 x1 h hL hF, fun x1 h hL hF => t_X12_strikes_3 E d (g_X12_strikes n) r ih.2.2.1 x1 h hL hF⟩
theorem c_X12_strikes (d : Nat) (h : Hp) (r : Int × Hp) (hL : Lay h) (hF : f_X12_strikes  h = some r) : Sp mX12_strikes (d + 2) (0, 0) [xr 12 0] h (PoV r) :=
  sp_of (by decide) rfl (Nat.le_of_ble_eq_true rfl) (ls := [some (xr 12 0), none]) rfl (fun E _ => (u_X12_strikes E d r FU).1  h hL hF)
theorem dX12_taken_0 : decode cX12_taken 0 = .ok (.aload_n 0, 1) := by decide +kernel
theorem dX12_taken_1 : decode cX12_taken 1 = .ok (.iconst 0, 1) := by decide +kernel
theorem dX12_taken_2 : decode cX12_taken 2 = .ok (.putfield 194, 3) := by decide +kernel
theorem dX12_taken_5 : decode cX12_taken 5 = .ok (.iload_n 1, 1) := by decide +kernel
theorem dX12_taken_6 : decode cX12_taken 6 = .ok (.ifCond .lt 31, 3) := by decide +kernel
theorem dX12_taken_9 : decode cX12_taken 9 = .ok (.iload_n 1, 1) := by decide +kernel
theorem dX12_taken_10 : decode cX12_taken 10 = .ok (.aload_n 0, 1) := by decide +kernel
theorem dX12_taken_11 : decode cX12_taken 11 = .ok (.getfield 87, 3) := by decide +kernel
theorem dX12_taken_14 : decode cX12_taken 14 = .ok (.iconst 0, 1) := by decide +kernel
theorem dX12_taken_15 : decode cX12_taken 15 = .ok (.iaload, 1) := by decide +kernel
theorem dX12_taken_16 : decode cX12_taken 16 = .ok (.if_icmp .ge 21, 3) := by decide +kernel
theorem dX12_taken_19 : decode cX12_taken 19 = .ok (.iload_n 2, 1) := by decide +kernel
theorem dX12_taken_20 : decode cX12_taken 20 = .ok (.ifCond .lt 17, 3) := by decide +kernel
theorem dX12_taken_23 : decode cX12_taken 23 = .ok (.iload_n 2, 1) := by decide +kernel
theorem dX12_taken_24 : decode cX12_taken 24 = .ok (.iconst 3, 1) := by decide +kernel
theorem dX12_taken_25 : decode cX12_taken 25 = .ok (.if_icmp .gt 12, 3) := by decide +kernel
theorem dX12_taken_28 : decode cX12_taken 28 = .ok (.aload_n 0, 1) := by decide +kernel
theorem dX12_taken_29 : decode cX12_taken 29 = .ok (.getfield 364, 3) := by decide +kernel
theorem dX12_taken_32 : decode cX12_taken 32 = .ok (.bipush 32, 2) := by decide +kernel
theorem dX12_taken_34 : decode cX12_taken 34 = .ok (.if_icmp .ne 7, 3) := by decide +kernel
theorem dX12_taken_37 : decode cX12_taken 37 = .ok (.iconst (-1), 1) := by decide +kernel
theorem dX12_taken_38 : decode cX12_taken 38 = .ok (.goto 10, 3) := by decide +kernel
theorem dX12_taken_41 : decode cX12_taken 41 = .ok (.aload_n 0, 1) := by decide +kernel
theorem dX12_taken_42 : decode cX12_taken 42 = .ok (.iconst 0, 1) := by decide +kernel
theorem dX12_taken_43 : decode cX12_taken 43 = .ok (.iload_n 1, 1) := by decide +kernel
theorem dX12_taken_44 : decode cX12_taken 44 = .ok (.iload_n 2, 1) := by decide +kernel
theorem dX12_taken_45 : decode cX12_taken 45 = .ok (.invokevirtual 495, 3) := by decide +kernel
theorem dX12_taken_48 : decode cX12_taken 48 = .ok (.ireturn, 1) := by decide +kernel
noncomputable def b_X12_taken_0 (rec : Rk) (x1 x2 : Int) (h : Hp) : Option (Int × Hp) :=
  lt (sI h 12 0 0 0) fun h1 =>
  if x1 < 0 then (
    rec 1 [] h1
  ) else (
    ck (0 ≤ (0 : Int) ∧ (0 : Int) < 23) <|
    if (gI h1 84 0 0) ≤ x1 then (
      rec 1 [] h1
    ) else (
      if x2 < 0 then (
        rec 1 [] h1
      ) else (
        if 3 < x2 then (
          rec 1 [] h1
        ) else (
          if (gI h1 12 0 74) = 32 then (
            rec 1 [] h1
          ) else (
            bd (f_X12_added 0 x1 x2 h1) fun v2 h3 =>
            some (v2, h3)
          )
        )
      )
    )
  )
noncomputable def b_X12_taken_1 (rec : Rk) (h : Hp) : Option (Int × Hp) :=
  some ((-1), h)
noncomputable def g_X12_taken (n : Nat) : Rk := Nat.rec (motive := fun _ => Rk) (fun _ _ _ => none) (fun _ rec k l h => if k = 0 then b_X12_taken_0 rec (l.getD 0 0) (l.getD 1 0) h else if k = 1 then b_X12_taken_1 rec  h else none) n
noncomputable def f_X12_taken (x1 x2 : Int) (h : Hp) : Option (Int × Hp) := g_X12_taken FU 0 [x1, x2] h
set_option maxHeartbeats 4000000 in
set_option maxRecDepth 100000 in
theorem t_X12_taken_0 (E : xE) (d : Nat) (rec : Rk) (r : Int × Hp) (hr_37 : ∀ (h : Hp), Lay h → rec 1 [] h = some r → X E mX12_taken (d + 2) (0, 0) (0, 0) 37 [none, none, none] [] h (PoI r)) (x1 x2 : Int) (h : Hp) (hL : Lay h) (hF : b_X12_taken_0 rec x1 x2 h = some r) : X E mX12_taken (d + 2) (0, 0) (0, 0) 0 [some (xr 12 0), some (xi x1), some (xi x2)] [] h (PoI r) := by
  unfold b_X12_taken_0 at hF
  refine x_aload_n (i := 0) (b := 1) dX12_taken_0 rfl rfl rfl ?_
  refine x_iconst (n := 0) (b := 2) dX12_taken_1 (by decide) rfl ?_
  refine x_putI (b := 5) fk_X12_194 dX12_taken_2 rfl rfl 0 rfl ?_
  obtain ⟨h1, e_h1, hF⟩ := lt_e hF
  refine x_hp (h2 := h1) e_h1 ?_
  replace hL : Lay h1 := by rw [← e_h1]; exact hL
  refine x_iload_n (i := 1) (b := 6) dX12_taken_5 rfl rfl rfl ?_
  refine x_if_lt (tgt := 37) (b := 9) dX12_taken_6 (by decide) rfl (fun hc => ?_) (fun hc => ?_)
  · replace hF := br_T hc hF
    exact x_dp (ls2 := [none, none, none]) trivial (hr_37  h1 hL hF)
  · replace hF := br_F hc hF
    refine x_iload_n (i := 1) (b := 10) dX12_taken_9 rfl rfl rfl ?_
    refine x_aload_n (i := 0) (b := 11) dX12_taken_10 rfl rfl rfl ?_
    refine x_getL (j := 0) (t := (84, 0, true)) (b := 14) fk_X12_87 dX12_taken_11 rfl hL rfl rfl rfl ?_
    refine x_iconst (n := 0) (b := 15) dX12_taken_14 (by decide) rfl ?_
    obtain ⟨hs, hF⟩ := ck_e hF
    refine x_iald (v := gI h1 84 0 0) (b := 16) ak_84 dX12_taken_15 hs rfl rfl ?_
    refine x_icmp_ge (tgt := 37) (b := 19) dX12_taken_16 (by decide) rfl (fun hc => ?_) (fun hc => ?_)
    · replace hF := br_T hc hF
      exact x_dp (ls2 := [none, none, none]) trivial (hr_37  h1 hL hF)
    · replace hF := br_F hc hF
      refine x_iload_n (i := 2) (b := 20) dX12_taken_19 rfl rfl rfl ?_
      refine x_if_lt (tgt := 37) (b := 23) dX12_taken_20 (by decide) rfl (fun hc => ?_) (fun hc => ?_)
      · replace hF := br_T hc hF
        exact x_dp (ls2 := [none, none, none]) trivial (hr_37  h1 hL hF)
      · replace hF := br_F hc hF
        refine x_iload_n (i := 2) (b := 24) dX12_taken_23 rfl rfl rfl ?_
        refine x_iconst (n := 3) (b := 25) dX12_taken_24 (by decide) rfl ?_
        refine x_icmp_gt (tgt := 37) (b := 28) dX12_taken_25 (by decide) rfl (fun hc => ?_) (fun hc => ?_)
        · replace hF := br_T hc hF
          exact x_dp (ls2 := [none, none, none]) trivial (hr_37  h1 hL hF)
        · replace hF := br_F hc hF
          refine x_aload_n (i := 0) (b := 29) dX12_taken_28 rfl rfl rfl ?_
          refine x_getI (v := gI h1 12 0 74) (b := 32) fk_X12_364 dX12_taken_29 (by decide) rfl rfl ?_
          refine x_bipush (n := 32) (b := 34) dX12_taken_32 (by decide) rfl ?_
          refine x_icmp_ne (tgt := 41) (b := 37) dX12_taken_34 (by decide) rfl (fun hc => ?_) (fun hc => ?_)
          · replace hF := br_F hc hF
            refine x_aload_n (i := 0) (b := 42) dX12_taken_41 rfl rfl rfl ?_
            refine x_iconst (n := 0) (b := 43) dX12_taken_42 (by decide) rfl ?_
            refine x_iload_n (i := 1) (b := 44) dX12_taken_43 rfl rfl rfl ?_
            refine x_iload_n (i := 2) (b := 45) dX12_taken_44 rfl rfl rfl ?_
            obtain ⟨v2, h3, hq, hF⟩ := bd_e hF
            refine x_callV (as := [xi 0, xi x1, xi x2]) (rest := []) (b := 48) (c_X12_added d 0 x1 x2 h1 _ hL hq) dX12_taken_45 cw_X12_495 ⟨_, _, rfl, Nat.le_of_ble_eq_true rfl⟩ rfl rfl (Nat.le_of_ble_eq_true rfl) ⟨Nat.le_refl _, Nat.le_refl _⟩ rfl (fun rv hh hp _ => ?_)
            obtain ⟨rfl, rfl, hL⟩ := hp
            refine x_ireturn dX12_taken_48 rfl ⟨Nat.le_refl _, Nat.le_refl _⟩ ?_
            cases hF
            exact ⟨rfl, rfl, hL⟩
          · replace hF := br_T hc hF
            exact x_dp (ls2 := [none, none, none]) trivial (hr_37  h1 hL hF)
set_option maxHeartbeats 4000000 in
set_option maxRecDepth 100000 in
theorem t_X12_taken_1 (E : xE) (d : Nat) (rec : Rk) (r : Int × Hp) (h : Hp) (hL : Lay h) (hF : b_X12_taken_1 rec  h = some r) : X E mX12_taken (d + 2) (0, 0) (0, 0) 37 [none, none, none] [] h (PoI r) := by
  unfold b_X12_taken_1 at hF
  refine x_iconst (n := (-1)) (b := 38) dX12_taken_37 (by decide) rfl ?_
  refine x_goto (tgt := 48) dX12_taken_38 (by decide) ?_
  refine x_ireturn dX12_taken_48 rfl ⟨Nat.le_refl _, Nat.le_refl _⟩ ?_
  cases hF
  exact ⟨rfl, rfl, hL⟩
set_option maxHeartbeats 4000000 in
set_option maxRecDepth 100000 in
theorem u_X12_taken (E : xE) (d : Nat) (r : Int × Hp) : ∀ n : Nat, (∀ (x1 x2 : Int) (h : Hp), Lay h → g_X12_taken n 0 [x1, x2] h = some r → X E mX12_taken (d + 2) (0, 0) (0, 0) 0 [some (xr 12 0), some (xi x1), some (xi x2)] [] h (PoI r)) ∧ (∀ (h : Hp), Lay h → g_X12_taken n 1 [] h = some r → X E mX12_taken (d + 2) (0, 0) (0, 0) 37 [none, none, none] [] h (PoI r)) := by
  intro n
  induction n with
  | zero => exact ⟨fun _ _ _ _ hF => no_e (r := r) hF, fun _ _ hF => no_e (r := r) hF⟩
  | succ n ih => exact ⟨fun x1 x2 h hL hF => t_X12_taken_0 E d (g_X12_taken n) r ih.2 x1 x2 h hL hF, fun h hL hF => t_X12_taken_1 E d (g_X12_taken n) r   h hL hF⟩
theorem c_X12_taken (d : Nat) (x1 x2 : Int) (h : Hp) (r : Int × Hp) (hL : Lay h) (hF : f_X12_taken x1 x2 h = some r) : Sp mX12_taken (d + 2) (0, 0) [xr 12 0, xi x1, xi x2] h (PoI r) :=
  sp_of (by decide) rfl (Nat.le_of_ble_eq_true rfl) (ls := [some (xr 12 0), some (xi x1), some (xi x2)]) rfl (fun E _ => (u_X12_taken E d r FU).1 x1 x2 h hL hF)
theorem dX12_takes_0 : decode cX12_takes 0 = .ok (.aload_n 0, 1) := by decide +kernel
theorem dX12_takes_1 : decode cX12_takes 1 = .ok (.getfield 87, 3) := by decide +kernel
theorem dX12_takes_4 : decode cX12_takes 4 = .ok (.iconst 1, 1) := by decide +kernel
theorem dX12_takes_5 : decode cX12_takes 5 = .ok (.aload_n 0, 1) := by decide +kernel
theorem dX12_takes_6 : decode cX12_takes 6 = .ok (.getfield 157, 3) := by decide +kernel
theorem dX12_takes_9 : decode cX12_takes 9 = .ok (.iload_n 1, 1) := by decide +kernel
theorem dX12_takes_10 : decode cX12_takes 10 = .ok (.iaload, 1) := by decide +kernel
theorem dX12_takes_11 : decode cX12_takes 11 = .ok (.iastore, 1) := by decide +kernel
theorem dX12_takes_12 : decode cX12_takes 12 = .ok (.aload_n 0, 1) := by decide +kernel
theorem dX12_takes_13 : decode cX12_takes 13 = .ok (.getfield 90, 3) := by decide +kernel
theorem dX12_takes_16 : decode cX12_takes 16 = .ok (.iconst 1, 1) := by decide +kernel
theorem dX12_takes_17 : decode cX12_takes 17 = .ok (.aload_n 0, 1) := by decide +kernel
theorem dX12_takes_18 : decode cX12_takes 18 = .ok (.getfield 160, 3) := by decide +kernel
theorem dX12_takes_21 : decode cX12_takes 21 = .ok (.iload_n 1, 1) := by decide +kernel
theorem dX12_takes_22 : decode cX12_takes 22 = .ok (.iaload, 1) := by decide +kernel
theorem dX12_takes_23 : decode cX12_takes 23 = .ok (.iastore, 1) := by decide +kernel
theorem dX12_takes_24 : decode cX12_takes 24 = .ok (.aload_n 0, 1) := by decide +kernel
theorem dX12_takes_25 : decode cX12_takes 25 = .ok (.getfield 93, 3) := by decide +kernel
theorem dX12_takes_28 : decode cX12_takes 28 = .ok (.iconst 1, 1) := by decide +kernel
theorem dX12_takes_29 : decode cX12_takes 29 = .ok (.aload_n 0, 1) := by decide +kernel
theorem dX12_takes_30 : decode cX12_takes 30 = .ok (.getfield 163, 3) := by decide +kernel
theorem dX12_takes_33 : decode cX12_takes 33 = .ok (.iload_n 1, 1) := by decide +kernel
theorem dX12_takes_34 : decode cX12_takes 34 = .ok (.iaload, 1) := by decide +kernel
theorem dX12_takes_35 : decode cX12_takes 35 = .ok (.iastore, 1) := by decide +kernel
theorem dX12_takes_36 : decode cX12_takes 36 = .ok (.iconst 0, 1) := by decide +kernel
theorem dX12_takes_37 : decode cX12_takes 37 = .ok (.istore_n 2, 1) := by decide +kernel
theorem dX12_takes_38 : decode cX12_takes 38 = .ok (.iload_n 2, 1) := by decide +kernel
theorem dX12_takes_39 : decode cX12_takes 39 = .ok (.bipush 9, 2) := by decide +kernel
theorem dX12_takes_41 : decode cX12_takes 41 = .ok (.if_icmp .ge 49, 3) := by decide +kernel
theorem dX12_takes_44 : decode cX12_takes 44 = .ok (.aload_n 0, 1) := by decide +kernel
theorem dX12_takes_45 : decode cX12_takes 45 = .ok (.getfield 108, 3) := by decide +kernel
theorem dX12_takes_48 : decode cX12_takes 48 = .ok (.bipush 9, 2) := by decide +kernel
theorem dX12_takes_50 : decode cX12_takes 50 = .ok (.iload_n 2, 1) := by decide +kernel
theorem dX12_takes_51 : decode cX12_takes 51 = .ok (.iadd, 1) := by decide +kernel
theorem dX12_takes_52 : decode cX12_takes 52 = .ok (.aload_n 0, 1) := by decide +kernel
theorem dX12_takes_53 : decode cX12_takes 53 = .ok (.getfield 166, 3) := by decide +kernel
theorem dX12_takes_56 : decode cX12_takes 56 = .ok (.bipush 9, 2) := by decide +kernel
theorem dX12_takes_58 : decode cX12_takes 58 = .ok (.iload_n 1, 1) := by decide +kernel
theorem dX12_takes_59 : decode cX12_takes 59 = .ok (.imul, 1) := by decide +kernel
theorem dX12_takes_60 : decode cX12_takes 60 = .ok (.iload_n 2, 1) := by decide +kernel
theorem dX12_takes_61 : decode cX12_takes 61 = .ok (.iadd, 1) := by decide +kernel
theorem dX12_takes_62 : decode cX12_takes 62 = .ok (.iaload, 1) := by decide +kernel
theorem dX12_takes_63 : decode cX12_takes 63 = .ok (.iastore, 1) := by decide +kernel
theorem dX12_takes_64 : decode cX12_takes 64 = .ok (.aload_n 0, 1) := by decide +kernel
theorem dX12_takes_65 : decode cX12_takes 65 = .ok (.getfield 111, 3) := by decide +kernel
theorem dX12_takes_68 : decode cX12_takes 68 = .ok (.bipush 9, 2) := by decide +kernel
theorem dX12_takes_70 : decode cX12_takes 70 = .ok (.iload_n 2, 1) := by decide +kernel
theorem dX12_takes_71 : decode cX12_takes 71 = .ok (.iadd, 1) := by decide +kernel
theorem dX12_takes_72 : decode cX12_takes 72 = .ok (.aload_n 0, 1) := by decide +kernel
theorem dX12_takes_73 : decode cX12_takes 73 = .ok (.getfield 169, 3) := by decide +kernel
theorem dX12_takes_76 : decode cX12_takes 76 = .ok (.bipush 9, 2) := by decide +kernel
theorem dX12_takes_78 : decode cX12_takes 78 = .ok (.iload_n 1, 1) := by decide +kernel
theorem dX12_takes_79 : decode cX12_takes 79 = .ok (.imul, 1) := by decide +kernel
theorem dX12_takes_80 : decode cX12_takes 80 = .ok (.iload_n 2, 1) := by decide +kernel
theorem dX12_takes_81 : decode cX12_takes 81 = .ok (.iadd, 1) := by decide +kernel
theorem dX12_takes_82 : decode cX12_takes 82 = .ok (.baload, 1) := by decide +kernel
theorem dX12_takes_83 : decode cX12_takes 83 = .ok (.bastore, 1) := by decide +kernel
theorem dX12_takes_84 : decode cX12_takes 84 = .ok (.iinc 2 1, 3) := by decide +kernel
theorem dX12_takes_87 : decode cX12_takes 87 = .ok (.goto (-49), 3) := by decide +kernel
theorem dX12_takes_90 : decode cX12_takes 90 = .ok (.return_, 1) := by decide +kernel
noncomputable def b_X12_takes_0 (rec : Rk) (x1 : Int) (h : Hp) : Option (Int × Hp) :=
  ck (0 ≤ x1 ∧ x1 < 3) <|
  ck (0 ≤ (1 : Int) ∧ (1 : Int) < 23) <|
  lt (sI h 84 0 1 (gI h 105 0 x1)) fun h1 =>
  ck (0 ≤ x1 ∧ x1 < 3) <|
  ck (0 ≤ (1 : Int) ∧ (1 : Int) < 23) <|
  lt (sI h1 85 0 1 (gI h1 106 0 x1)) fun h2 =>
  ck (0 ≤ x1 ∧ x1 < 3) <|
  ck (0 ≤ (1 : Int) ∧ (1 : Int) < 23) <|
  lt (sI h2 86 0 1 (gI h2 107 0 x1)) fun h3 =>
  rec 1 [x1, 0] h3
noncomputable def b_X12_takes_1 (rec : Rk) (x1 x2 : Int) (h : Hp) : Option (Int × Hp) :=
  if 9 ≤ x2 then (
    some (0, h)
  ) else (
    ck (-2147483648 ≤ 9 + x2 ∧ 9 + x2 < 2147483648) <|
    ck (-2147483648 ≤ 9 * x1 ∧ 9 * x1 < 2147483648) <|
    ck (-2147483648 ≤ (9 * x1) + x2 ∧ (9 * x1) + x2 < 2147483648) <|
    ck (0 ≤ ((9 * x1) + x2) ∧ ((9 * x1) + x2) < 27) <|
    ck (0 ≤ (9 + x2) ∧ (9 + x2) < 207) <|
    lt (sI h 91 0 (9 + x2) (gI h 108 0 ((9 * x1) + x2))) fun h1 =>
    ck (-2147483648 ≤ 9 + x2 ∧ 9 + x2 < 2147483648) <|
    ck (-2147483648 ≤ 9 * x1 ∧ 9 * x1 < 2147483648) <|
    ck (-2147483648 ≤ (9 * x1) + x2 ∧ (9 * x1) + x2 < 2147483648) <|
    ck (0 ≤ ((9 * x1) + x2) ∧ ((9 * x1) + x2) < 27) <|
    ck (0 ≤ (9 + x2) ∧ (9 + x2) < 207) <|
    ck (0 ≤ (gI h1 109 0 ((9 * x1) + x2)) ∧ (gI h1 109 0 ((9 * x1) + x2)) < 2) <|
    lt (sI h1 92 0 (9 + x2) (gI h1 109 0 ((9 * x1) + x2))) fun h2 =>
    ck (-2147483648 ≤ x2 + 1 ∧ x2 + 1 < 2147483648) <|
    rec 1 [x1, x2 + 1] h2
  )
noncomputable def g_X12_takes (n : Nat) : Rk := Nat.rec (motive := fun _ => Rk) (fun _ _ _ => none) (fun _ rec k l h => if k = 0 then b_X12_takes_0 rec (l.getD 0 0) h else if k = 1 then b_X12_takes_1 rec (l.getD 0 0) (l.getD 1 0) h else none) n
noncomputable def f_X12_takes (x1 : Int) (h : Hp) : Option (Int × Hp) := g_X12_takes FU 0 [x1] h
set_option maxHeartbeats 4000000 in
set_option maxRecDepth 100000 in
theorem t_X12_takes_0 (E : xE) (d : Nat) (rec : Rk) (r : Int × Hp) (hr_38 : ∀ (x1 x2 : Int) (h : Hp), Lay h → rec 1 [x1, x2] h = some r → X E mX12_takes (d + 1) (0, 0) (0, 0) 38 [some (xr 12 0), some (xi x1), some (xi x2)] [] h (PoV r)) (x1 : Int) (h : Hp) (hL : Lay h) (hF : b_X12_takes_0 rec x1 h = some r) : X E mX12_takes (d + 1) (0, 0) (0, 0) 0 [some (xr 12 0), some (xi x1), none] [] h (PoV r) := by
  unfold b_X12_takes_0 at hF
  refine x_aload_n (i := 0) (b := 1) dX12_takes_0 rfl rfl rfl ?_
  refine x_getL (j := 0) (t := (84, 0, true)) (b := 4) fk_X12_87 dX12_takes_1 rfl hL rfl rfl rfl ?_
  refine x_iconst (n := 1) (b := 5) dX12_takes_4 (by decide) rfl ?_
  refine x_aload_n (i := 0) (b := 6) dX12_takes_5 rfl rfl rfl ?_
  refine x_getL (j := 0) (t := (105, 0, true)) (b := 9) fk_X12_157 dX12_takes_6 rfl hL rfl rfl rfl ?_
  refine x_iload_n (i := 1) (b := 10) dX12_takes_9 rfl rfl rfl ?_
  obtain ⟨hs, hF⟩ := ck_e hF
  refine x_iald (v := gI h 105 0 x1) (b := 11) ak_105 dX12_takes_10 hs rfl rfl ?_
  obtain ⟨hs, hF⟩ := ck_e hF
  have hs1 := hs
  refine x_iast (b := 12) ak_84 dX12_takes_11 hs1 rfl ?_
  obtain ⟨h1, e_h1, hF⟩ := lt_e hF
  refine x_hp (h2 := h1) e_h1 ?_
  replace hL : Lay h1 := by rw [← e_h1]; exact hL
  refine x_aload_n (i := 0) (b := 13) dX12_takes_12 rfl rfl rfl ?_
  refine x_getL (j := 0) (t := (85, 0, true)) (b := 16) fk_X12_90 dX12_takes_13 rfl hL rfl rfl rfl ?_
  refine x_iconst (n := 1) (b := 17) dX12_takes_16 (by decide) rfl ?_
  refine x_aload_n (i := 0) (b := 18) dX12_takes_17 rfl rfl rfl ?_
  refine x_getL (j := 0) (t := (106, 0, true)) (b := 21) fk_X12_160 dX12_takes_18 rfl hL rfl rfl rfl ?_
  refine x_iload_n (i := 1) (b := 22) dX12_takes_21 rfl rfl rfl ?_
  obtain ⟨hs, hF⟩ := ck_e hF
  refine x_iald (v := gI h1 106 0 x1) (b := 23) ak_106 dX12_takes_22 hs rfl rfl ?_
  obtain ⟨hs, hF⟩ := ck_e hF
  have hs1 := hs
  refine x_iast (b := 24) ak_85 dX12_takes_23 hs1 rfl ?_
  obtain ⟨h2, e_h2, hF⟩ := lt_e hF
  refine x_hp (h2 := h2) e_h2 ?_
  replace hL : Lay h2 := by rw [← e_h2]; exact hL
  refine x_aload_n (i := 0) (b := 25) dX12_takes_24 rfl rfl rfl ?_
  refine x_getL (j := 0) (t := (86, 0, true)) (b := 28) fk_X12_93 dX12_takes_25 rfl hL rfl rfl rfl ?_
  refine x_iconst (n := 1) (b := 29) dX12_takes_28 (by decide) rfl ?_
  refine x_aload_n (i := 0) (b := 30) dX12_takes_29 rfl rfl rfl ?_
  refine x_getL (j := 0) (t := (107, 0, true)) (b := 33) fk_X12_163 dX12_takes_30 rfl hL rfl rfl rfl ?_
  refine x_iload_n (i := 1) (b := 34) dX12_takes_33 rfl rfl rfl ?_
  obtain ⟨hs, hF⟩ := ck_e hF
  refine x_iald (v := gI h2 107 0 x1) (b := 35) ak_107 dX12_takes_34 hs rfl rfl ?_
  obtain ⟨hs, hF⟩ := ck_e hF
  have hs1 := hs
  refine x_iast (b := 36) ak_86 dX12_takes_35 hs1 rfl ?_
  obtain ⟨h3, e_h3, hF⟩ := lt_e hF
  refine x_hp (h2 := h3) e_h3 ?_
  replace hL : Lay h3 := by rw [← e_h3]; exact hL
  refine x_iconst (n := 0) (b := 37) dX12_takes_36 (by decide) rfl ?_
  refine x_istore_n (i := 2) (b := 38) (ls2 := [some (xr 12 0), some (xi x1), some (xi 0)]) dX12_takes_37 rfl (Nat.le_of_ble_eq_true rfl) rfl rfl ?_
  exact x_dp (ls2 := [some (xr 12 0), some (xi x1), some (xi 0)]) ⟨rfl, rfl, rfl, trivial⟩ (hr_38 x1 0 h3 hL hF)
set_option maxHeartbeats 4000000 in
set_option maxRecDepth 100000 in
theorem t_X12_takes_1 (E : xE) (d : Nat) (rec : Rk) (r : Int × Hp) (hr_38 : ∀ (x1 x2 : Int) (h : Hp), Lay h → rec 1 [x1, x2] h = some r → X E mX12_takes (d + 1) (0, 0) (0, 0) 38 [some (xr 12 0), some (xi x1), some (xi x2)] [] h (PoV r)) (x1 x2 : Int) (h : Hp) (hL : Lay h) (hF : b_X12_takes_1 rec x1 x2 h = some r) : X E mX12_takes (d + 1) (0, 0) (0, 0) 38 [some (xr 12 0), some (xi x1), some (xi x2)] [] h (PoV r) := by
  unfold b_X12_takes_1 at hF
  refine x_iload_n (i := 2) (b := 39) dX12_takes_38 rfl rfl rfl ?_
  refine x_bipush (n := 9) (b := 41) dX12_takes_39 (by decide) rfl ?_
  refine x_icmp_ge (tgt := 90) (b := 44) dX12_takes_41 (by decide) rfl (fun hc => ?_) (fun hc => ?_)
  · replace hF := br_T hc hF
    refine x_return dX12_takes_90 rfl ⟨Nat.le_refl _, Nat.le_refl _⟩ ?_
    cases hF
    exact ⟨rfl, rfl, hL⟩
  · replace hF := br_F hc hF
    refine x_aload_n (i := 0) (b := 45) dX12_takes_44 rfl rfl rfl ?_
    refine x_getL (j := 0) (t := (91, 0, true)) (b := 48) fk_X12_108 dX12_takes_45 rfl hL rfl rfl rfl ?_
    refine x_bipush (n := 9) (b := 50) dX12_takes_48 (by decide) rfl ?_
    refine x_iload_n (i := 2) (b := 51) dX12_takes_50 rfl rfl rfl ?_
    obtain ⟨hs, hF⟩ := ck_e hF
    refine x_iadd (b := 52) dX12_takes_51 hs rfl ?_
    refine x_aload_n (i := 0) (b := 53) dX12_takes_52 rfl rfl rfl ?_
    refine x_getL (j := 0) (t := (108, 0, true)) (b := 56) fk_X12_166 dX12_takes_53 rfl hL rfl rfl rfl ?_
    refine x_bipush (n := 9) (b := 58) dX12_takes_56 (by decide) rfl ?_
    refine x_iload_n (i := 1) (b := 59) dX12_takes_58 rfl rfl rfl ?_
    obtain ⟨hs, hF⟩ := ck_e hF
    refine x_imul (b := 60) dX12_takes_59 hs rfl ?_
    refine x_iload_n (i := 2) (b := 61) dX12_takes_60 rfl rfl rfl ?_
    obtain ⟨hs, hF⟩ := ck_e hF
    refine x_iadd (b := 62) dX12_takes_61 hs rfl ?_
    obtain ⟨hs, hF⟩ := ck_e hF
    refine x_iald (v := gI h 108 0 ((9 * x1) + x2)) (b := 63) ak_108 dX12_takes_62 hs rfl rfl ?_
    obtain ⟨hs, hF⟩ := ck_e hF
    have hs1 := hs
    refine x_iast (b := 64) ak_91 dX12_takes_63 hs1 rfl ?_
    obtain ⟨h1, e_h1, hF⟩ := lt_e hF
    refine x_hp (h2 := h1) e_h1 ?_
    replace hL : Lay h1 := by rw [← e_h1]; exact hL
    refine x_aload_n (i := 0) (b := 65) dX12_takes_64 rfl rfl rfl ?_
    refine x_getL (j := 0) (t := (92, 0, true)) (b := 68) fk_X12_111 dX12_takes_65 rfl hL rfl rfl rfl ?_
    refine x_bipush (n := 9) (b := 70) dX12_takes_68 (by decide) rfl ?_
    refine x_iload_n (i := 2) (b := 71) dX12_takes_70 rfl rfl rfl ?_
    obtain ⟨hs, hF⟩ := ck_e hF
    refine x_iadd (b := 72) dX12_takes_71 hs rfl ?_
    refine x_aload_n (i := 0) (b := 73) dX12_takes_72 rfl rfl rfl ?_
    refine x_getL (j := 0) (t := (109, 0, true)) (b := 76) fk_X12_169 dX12_takes_73 rfl hL rfl rfl rfl ?_
    refine x_bipush (n := 9) (b := 78) dX12_takes_76 (by decide) rfl ?_
    refine x_iload_n (i := 1) (b := 79) dX12_takes_78 rfl rfl rfl ?_
    obtain ⟨hs, hF⟩ := ck_e hF
    refine x_imul (b := 80) dX12_takes_79 hs rfl ?_
    refine x_iload_n (i := 2) (b := 81) dX12_takes_80 rfl rfl rfl ?_
    obtain ⟨hs, hF⟩ := ck_e hF
    refine x_iadd (b := 82) dX12_takes_81 hs rfl ?_
    obtain ⟨hs, hF⟩ := ck_e hF
    refine x_zald (v := gI h1 109 0 ((9 * x1) + x2)) (b := 83) ak_109 dX12_takes_82 hs rfl rfl ?_
    obtain ⟨hs, hF⟩ := ck_e hF
    have hs1 := hs
    obtain ⟨hs, hF⟩ := ck_e hF
    refine x_zast (b := 84) ak_92 dX12_takes_83 hs1 hs rfl ?_
    obtain ⟨h2, e_h2, hF⟩ := lt_e hF
    refine x_hp (h2 := h2) e_h2 ?_
    replace hL : Lay h2 := by rw [← e_h2]; exact hL
    obtain ⟨hs, hF⟩ := ck_e hF
    refine x_iinc (i := 2) (b := 87) (ls2 := [some (xr 12 0), some (xi x1), some (xi (x2 + 1))]) dX12_takes_84 rfl (Nat.le_of_ble_eq_true rfl) hs rfl rfl ?_
    refine x_goto (tgt := 38) dX12_takes_87 (by decide) ?_
    exact x_dp (ls2 := [some (xr 12 0), some (xi x1), some (xi (x2 + 1))]) ⟨rfl, rfl, rfl, trivial⟩ (hr_38 x1 (x2 + 1) h2 hL hF)
set_option maxHeartbeats 4000000 in
set_option maxRecDepth 100000 in
theorem u_X12_takes (E : xE) (d : Nat) (r : Int × Hp) : ∀ n : Nat, (∀ (x1 : Int) (h : Hp), Lay h → g_X12_takes n 0 [x1] h = some r → X E mX12_takes (d + 1) (0, 0) (0, 0) 0 [some (xr 12 0), some (xi x1), none] [] h (PoV r)) ∧ (∀ (x1 x2 : Int) (h : Hp), Lay h → g_X12_takes n 1 [x1, x2] h = some r → X E mX12_takes (d + 1) (0, 0) (0, 0) 38 [some (xr 12 0), some (xi x1), some (xi x2)] [] h (PoV r)) := by
  intro n
  induction n with
  | zero => exact ⟨fun _ _ _ hF => no_e (r := r) hF, fun _ _ _ _ hF => no_e (r := r) hF⟩
  | succ n ih => exact ⟨fun x1 h hL hF => t_X12_takes_0 E d (g_X12_takes n) r ih.2 x1 h hL hF, fun x1 x2 h hL hF => t_X12_takes_1 E d (g_X12_takes n) r ih.2 x1 x2 h hL hF⟩
theorem c_X12_takes (d : Nat) (x1 : Int) (h : Hp) (r : Int × Hp) (hL : Lay h) (hF : f_X12_takes x1 h = some r) : Sp mX12_takes (d + 1) (0, 0) [xr 12 0, xi x1] h (PoV r) :=
  sp_of (by decide) rfl (Nat.le_of_ble_eq_true rfl) (ls := [some (xr 12 0), some (xi x1), none]) rfl (fun E _ => (u_X12_takes E d r FU).1 x1 h hL hF)
theorem dX12_thrown_0 : decode cX12_thrown 0 = .ok (.aload_n 0, 1) := by decide +kernel
theorem dX12_thrown_1 : decode cX12_thrown 1 = .ok (.getfield 194, 3) := by decide +kernel
theorem dX12_thrown_4 : decode cX12_thrown 4 = .ok (.ireturn, 1) := by decide +kernel
noncomputable def b_X12_thrown_0 (rec : Rk) (h : Hp) : Option (Int × Hp) :=
  some (gI h 12 0 0, h)
noncomputable def g_X12_thrown (n : Nat) : Rk := Nat.rec (motive := fun _ => Rk) (fun _ _ _ => none) (fun _ rec k l h => if k = 0 then b_X12_thrown_0 rec  h else none) n
noncomputable def f_X12_thrown (h : Hp) : Option (Int × Hp) := g_X12_thrown FU 0 [] h
set_option maxHeartbeats 4000000 in
set_option maxRecDepth 100000 in
theorem t_X12_thrown_0 (E : xE) (d : Nat) (rec : Rk) (r : Int × Hp) (h : Hp) (hL : Lay h) (hF : b_X12_thrown_0 rec  h = some r) : X E mX12_thrown (d + 1) (0, 0) (0, 0) 0 [some (xr 12 0)] [] h (PoI r) := by
  unfold b_X12_thrown_0 at hF
  refine x_aload_n (i := 0) (b := 1) dX12_thrown_0 rfl rfl rfl ?_
  refine x_getI (v := gI h 12 0 0) (b := 4) fk_X12_194 dX12_thrown_1 (by decide) rfl rfl ?_
  refine x_ireturn dX12_thrown_4 rfl ⟨Nat.le_refl _, Nat.le_refl _⟩ ?_
  cases hF
  exact ⟨rfl, rfl, hL⟩
set_option maxHeartbeats 4000000 in
set_option maxRecDepth 100000 in
theorem u_X12_thrown (E : xE) (d : Nat) (r : Int × Hp) : ∀ n : Nat, (∀ (h : Hp), Lay h → g_X12_thrown n 0 [] h = some r → X E mX12_thrown (d + 1) (0, 0) (0, 0) 0 [some (xr 12 0)] [] h (PoI r)) := by
  intro n
  induction n with
  | zero => exact fun _ _ hF => no_e (r := r) hF
  | succ n ih => exact fun h hL hF => t_X12_thrown_0 E d (g_X12_thrown n) r   h hL hF
theorem c_X12_thrown (d : Nat) (h : Hp) (r : Int × Hp) (hL : Lay h) (hF : f_X12_thrown  h = some r) : Sp mX12_thrown (d + 1) (0, 0) [xr 12 0] h (PoI r) :=
  sp_of (by decide) rfl (Nat.le_of_ble_eq_true rfl) (ls := [some (xr 12 0)]) rfl (fun E _ => (u_X12_thrown E d r FU)  h hL hF)
theorem dX12_top_0 : decode cX12_top 0 = .ok (.iconst (-1), 1) := by decide +kernel
theorem dX12_top_1 : decode cX12_top 1 = .ok (.istore_n 1, 1) := by decide +kernel
theorem dX12_top_2 : decode cX12_top 2 = .ok (.iconst 0, 1) := by decide +kernel
theorem dX12_top_3 : decode cX12_top 3 = .ok (.istore_n 2, 1) := by decide +kernel
theorem dX12_top_4 : decode cX12_top 4 = .ok (.iload_n 2, 1) := by decide +kernel
theorem dX12_top_5 : decode cX12_top 5 = .ok (.iconst 4, 1) := by decide +kernel
theorem dX12_top_6 : decode cX12_top 6 = .ok (.if_icmp .ge 40, 3) := by decide +kernel
theorem dX12_top_9 : decode cX12_top 9 = .ok (.aload_n 0, 1) := by decide +kernel
theorem dX12_top_10 : decode cX12_top 10 = .ok (.getfield 148, 3) := by decide +kernel
theorem dX12_top_13 : decode cX12_top 13 = .ok (.iload_n 2, 1) := by decide +kernel
theorem dX12_top_14 : decode cX12_top 14 = .ok (.iaload, 1) := by decide +kernel
theorem dX12_top_15 : decode cX12_top 15 = .ok (.ifCond .le 25, 3) := by decide +kernel
theorem dX12_top_18 : decode cX12_top 18 = .ok (.iload_n 1, 1) := by decide +kernel
theorem dX12_top_19 : decode cX12_top 19 = .ok (.iconst (-1), 1) := by decide +kernel
theorem dX12_top_20 : decode cX12_top 20 = .ok (.if_icmp .eq 18, 3) := by decide +kernel
theorem dX12_top_23 : decode cX12_top 23 = .ok (.aload_n 0, 1) := by decide +kernel
theorem dX12_top_24 : decode cX12_top 24 = .ok (.getfield 148, 3) := by decide +kernel
theorem dX12_top_27 : decode cX12_top 27 = .ok (.iload_n 2, 1) := by decide +kernel
theorem dX12_top_28 : decode cX12_top 28 = .ok (.iaload, 1) := by decide +kernel
theorem dX12_top_29 : decode cX12_top 29 = .ok (.aload_n 0, 1) := by decide +kernel
theorem dX12_top_30 : decode cX12_top 30 = .ok (.getfield 148, 3) := by decide +kernel
theorem dX12_top_33 : decode cX12_top 33 = .ok (.iload_n 1, 1) := by decide +kernel
theorem dX12_top_34 : decode cX12_top 34 = .ok (.iaload, 1) := by decide +kernel
theorem dX12_top_35 : decode cX12_top 35 = .ok (.if_icmp .le 5, 3) := by decide +kernel
theorem dX12_top_38 : decode cX12_top 38 = .ok (.iload_n 2, 1) := by decide +kernel
theorem dX12_top_39 : decode cX12_top 39 = .ok (.istore_n 1, 1) := by decide +kernel
theorem dX12_top_40 : decode cX12_top 40 = .ok (.iinc 2 1, 3) := by decide +kernel
theorem dX12_top_43 : decode cX12_top 43 = .ok (.goto (-39), 3) := by decide +kernel
theorem dX12_top_46 : decode cX12_top 46 = .ok (.iload_n 1, 1) := by decide +kernel
theorem dX12_top_47 : decode cX12_top 47 = .ok (.ireturn, 1) := by decide +kernel
noncomputable def b_X12_top_0 (rec : Rk) (h : Hp) : Option (Int × Hp) :=
  rec 1 [(-1), 0] h
noncomputable def b_X12_top_1 (rec : Rk) (x1 x2 : Int) (h : Hp) : Option (Int × Hp) :=
  if 4 ≤ x2 then (
    some (x1, h)
  ) else (
    ck (0 ≤ x2 ∧ x2 < 4) <|
    if (gI h 102 0 x2) ≤ 0 then (
      rec 3 [x1, x2] h
    ) else (
      if x1 = (-1) then (
        rec 2 [x2] h
      ) else (
        ck (0 ≤ x2 ∧ x2 < 4) <|
        ck (0 ≤ x1 ∧ x1 < 4) <|
        if (gI h 102 0 x2) ≤ (gI h 102 0 x1) then (
          rec 3 [x1, x2] h
        ) else (
          rec 2 [x2] h
        )
      )
    )
  )
noncomputable def b_X12_top_2 (rec : Rk) (x2 : Int) (h : Hp) : Option (Int × Hp) :=
  rec 3 [x2, x2] h
noncomputable def b_X12_top_3 (rec : Rk) (x1 x2 : Int) (h : Hp) : Option (Int × Hp) :=
  ck (-2147483648 ≤ x2 + 1 ∧ x2 + 1 < 2147483648) <|
  rec 1 [x1, x2 + 1] h
noncomputable def g_X12_top (n : Nat) : Rk := Nat.rec (motive := fun _ => Rk) (fun _ _ _ => none) (fun _ rec k l h => if k = 0 then b_X12_top_0 rec  h else if k = 1 then b_X12_top_1 rec (l.getD 0 0) (l.getD 1 0) h else if k = 2 then b_X12_top_2 rec (l.getD 0 0) h else if k = 3 then b_X12_top_3 rec (l.getD 0 0) (l.getD 1 0) h else none) n
noncomputable def f_X12_top (h : Hp) : Option (Int × Hp) := g_X12_top FU 0 [] h
set_option maxHeartbeats 4000000 in
set_option maxRecDepth 100000 in
theorem t_X12_top_0 (E : xE) (d : Nat) (rec : Rk) (r : Int × Hp) (hr_4 : ∀ (x1 x2 : Int) (h : Hp), Lay h → rec 1 [x1, x2] h = some r → X E mX12_top (d + 1) (0, 0) (0, 0) 4 [some (xr 12 0), some (xi x1), some (xi x2)] [] h (PoI r)) (h : Hp) (hL : Lay h) (hF : b_X12_top_0 rec  h = some r) : X E mX12_top (d + 1) (0, 0) (0, 0) 0 [some (xr 12 0), none, none] [] h (PoI r) := by
  unfold b_X12_top_0 at hF
  refine x_iconst (n := (-1)) (b := 1) dX12_top_0 (by decide) rfl ?_
  refine x_istore_n (i := 1) (b := 2) (ls2 := [some (xr 12 0), some (xi (-1)), none]) dX12_top_1 rfl (Nat.le_of_ble_eq_true rfl) rfl rfl ?_
  refine x_iconst (n := 0) (b := 3) dX12_top_2 (by decide) rfl ?_
  refine x_istore_n (i := 2) (b := 4) (ls2 := [some (xr 12 0), some (xi (-1)), some (xi 0)]) dX12_top_3 rfl (Nat.le_of_ble_eq_true rfl) rfl rfl ?_
  exact x_dp (ls2 := [some (xr 12 0), some (xi (-1)), some (xi 0)]) ⟨rfl, rfl, rfl, trivial⟩ (hr_4 (-1) 0 h hL hF)
set_option maxHeartbeats 4000000 in
set_option maxRecDepth 100000 in
theorem t_X12_top_1 (E : xE) (d : Nat) (rec : Rk) (r : Int × Hp) (hr_38 : ∀ (x2 : Int) (h : Hp), Lay h → rec 2 [x2] h = some r → X E mX12_top (d + 1) (0, 0) (0, 0) 38 [some (xr 12 0), none, some (xi x2)] [] h (PoI r)) (hr_40 : ∀ (x1 x2 : Int) (h : Hp), Lay h → rec 3 [x1, x2] h = some r → X E mX12_top (d + 1) (0, 0) (0, 0) 40 [some (xr 12 0), some (xi x1), some (xi x2)] [] h (PoI r)) (x1 x2 : Int) (h : Hp) (hL : Lay h) (hF : b_X12_top_1 rec x1 x2 h = some r) : X E mX12_top (d + 1) (0, 0) (0, 0) 4 [some (xr 12 0), some (xi x1), some (xi x2)] [] h (PoI r) := by
  unfold b_X12_top_1 at hF
  refine x_iload_n (i := 2) (b := 5) dX12_top_4 rfl rfl rfl ?_
  refine x_iconst (n := 4) (b := 6) dX12_top_5 (by decide) rfl ?_
  refine x_icmp_ge (tgt := 46) (b := 9) dX12_top_6 (by decide) rfl (fun hc => ?_) (fun hc => ?_)
  · replace hF := br_T hc hF
    refine x_iload_n (i := 1) (b := 47) dX12_top_46 rfl rfl rfl ?_
    refine x_ireturn dX12_top_47 rfl ⟨Nat.le_refl _, Nat.le_refl _⟩ ?_
    cases hF
    exact ⟨rfl, rfl, hL⟩
  · replace hF := br_F hc hF
    refine x_aload_n (i := 0) (b := 10) dX12_top_9 rfl rfl rfl ?_
    refine x_getL (j := 0) (t := (102, 0, true)) (b := 13) fk_X12_148 dX12_top_10 rfl hL rfl rfl rfl ?_
    refine x_iload_n (i := 2) (b := 14) dX12_top_13 rfl rfl rfl ?_
    obtain ⟨hs, hF⟩ := ck_e hF
    refine x_iald (v := gI h 102 0 x2) (b := 15) ak_102 dX12_top_14 hs rfl rfl ?_
    refine x_if_le (tgt := 40) (b := 18) dX12_top_15 (by decide) rfl (fun hc => ?_) (fun hc => ?_)
    · replace hF := br_T hc hF
      exact x_dp (ls2 := [some (xr 12 0), some (xi x1), some (xi x2)]) ⟨rfl, rfl, rfl, trivial⟩ (hr_40 x1 x2 h hL hF)
    · replace hF := br_F hc hF
      refine x_iload_n (i := 1) (b := 19) dX12_top_18 rfl rfl rfl ?_
      refine x_iconst (n := (-1)) (b := 20) dX12_top_19 (by decide) rfl ?_
      refine x_icmp_eq (tgt := 38) (b := 23) dX12_top_20 (by decide) rfl (fun hc => ?_) (fun hc => ?_)
      · replace hF := br_T hc hF
        exact x_dp (ls2 := [some (xr 12 0), none, some (xi x2)]) ⟨rfl, rfl, trivial⟩ (hr_38 x2 h hL hF)
      · replace hF := br_F hc hF
        refine x_aload_n (i := 0) (b := 24) dX12_top_23 rfl rfl rfl ?_
        refine x_getL (j := 0) (t := (102, 0, true)) (b := 27) fk_X12_148 dX12_top_24 rfl hL rfl rfl rfl ?_
        refine x_iload_n (i := 2) (b := 28) dX12_top_27 rfl rfl rfl ?_
        obtain ⟨hs, hF⟩ := ck_e hF
        refine x_iald (v := gI h 102 0 x2) (b := 29) ak_102 dX12_top_28 hs rfl rfl ?_
        refine x_aload_n (i := 0) (b := 30) dX12_top_29 rfl rfl rfl ?_
        refine x_getL (j := 0) (t := (102, 0, true)) (b := 33) fk_X12_148 dX12_top_30 rfl hL rfl rfl rfl ?_
        refine x_iload_n (i := 1) (b := 34) dX12_top_33 rfl rfl rfl ?_
        obtain ⟨hs, hF⟩ := ck_e hF
        refine x_iald (v := gI h 102 0 x1) (b := 35) ak_102 dX12_top_34 hs rfl rfl ?_
        refine x_icmp_le (tgt := 40) (b := 38) dX12_top_35 (by decide) rfl (fun hc => ?_) (fun hc => ?_)
        · replace hF := br_T hc hF
          exact x_dp (ls2 := [some (xr 12 0), some (xi x1), some (xi x2)]) ⟨rfl, rfl, rfl, trivial⟩ (hr_40 x1 x2 h hL hF)
        · replace hF := br_F hc hF
          exact x_dp (ls2 := [some (xr 12 0), none, some (xi x2)]) ⟨rfl, rfl, trivial⟩ (hr_38 x2 h hL hF)
set_option maxHeartbeats 4000000 in
set_option maxRecDepth 100000 in
theorem t_X12_top_2 (E : xE) (d : Nat) (rec : Rk) (r : Int × Hp) (hr_40 : ∀ (x1 x2 : Int) (h : Hp), Lay h → rec 3 [x1, x2] h = some r → X E mX12_top (d + 1) (0, 0) (0, 0) 40 [some (xr 12 0), some (xi x1), some (xi x2)] [] h (PoI r)) (x2 : Int) (h : Hp) (hL : Lay h) (hF : b_X12_top_2 rec x2 h = some r) : X E mX12_top (d + 1) (0, 0) (0, 0) 38 [some (xr 12 0), none, some (xi x2)] [] h (PoI r) := by
  unfold b_X12_top_2 at hF
  refine x_iload_n (i := 2) (b := 39) dX12_top_38 rfl rfl rfl ?_
  refine x_istore_n (i := 1) (b := 40) (ls2 := [some (xr 12 0), some (xi x2), some (xi x2)]) dX12_top_39 rfl (Nat.le_of_ble_eq_true rfl) rfl rfl ?_
  exact x_dp (ls2 := [some (xr 12 0), some (xi x2), some (xi x2)]) ⟨rfl, rfl, rfl, trivial⟩ (hr_40 x2 x2 h hL hF)
set_option maxHeartbeats 4000000 in
set_option maxRecDepth 100000 in
theorem t_X12_top_3 (E : xE) (d : Nat) (rec : Rk) (r : Int × Hp) (hr_4 : ∀ (x1 x2 : Int) (h : Hp), Lay h → rec 1 [x1, x2] h = some r → X E mX12_top (d + 1) (0, 0) (0, 0) 4 [some (xr 12 0), some (xi x1), some (xi x2)] [] h (PoI r)) (x1 x2 : Int) (h : Hp) (hL : Lay h) (hF : b_X12_top_3 rec x1 x2 h = some r) : X E mX12_top (d + 1) (0, 0) (0, 0) 40 [some (xr 12 0), some (xi x1), some (xi x2)] [] h (PoI r) := by
  unfold b_X12_top_3 at hF
  obtain ⟨hs, hF⟩ := ck_e hF
  refine x_iinc (i := 2) (b := 43) (ls2 := [some (xr 12 0), some (xi x1), some (xi (x2 + 1))]) dX12_top_40 rfl (Nat.le_of_ble_eq_true rfl) hs rfl rfl ?_
  refine x_goto (tgt := 4) dX12_top_43 (by decide) ?_
  exact x_dp (ls2 := [some (xr 12 0), some (xi x1), some (xi (x2 + 1))]) ⟨rfl, rfl, rfl, trivial⟩ (hr_4 x1 (x2 + 1) h hL hF)
set_option maxHeartbeats 4000000 in
set_option maxRecDepth 100000 in
theorem u_X12_top (E : xE) (d : Nat) (r : Int × Hp) : ∀ n : Nat, (∀ (h : Hp), Lay h → g_X12_top n 0 [] h = some r → X E mX12_top (d + 1) (0, 0) (0, 0) 0 [some (xr 12 0), none, none] [] h (PoI r)) ∧ (∀ (x1 x2 : Int) (h : Hp), Lay h → g_X12_top n 1 [x1, x2] h = some r → X E mX12_top (d + 1) (0, 0) (0, 0) 4 [some (xr 12 0), some (xi x1), some (xi x2)] [] h (PoI r)) ∧ (∀ (x2 : Int) (h : Hp), Lay h → g_X12_top n 2 [x2] h = some r → X E mX12_top (d + 1) (0, 0) (0, 0) 38 [some (xr 12 0), none, some (xi x2)] [] h (PoI r)) ∧ (∀ (x1 x2 : Int) (h : Hp), Lay h → g_X12_top n 3 [x1, x2] h = some r → X E mX12_top (d + 1) (0, 0) (0, 0) 40 [some (xr 12 0), some (xi x1), some (xi x2)] [] h (PoI r)) := by
  intro n
  induction n with
  | zero => exact ⟨fun _ _ hF => no_e (r := r) hF, fun _ _ _ _ hF => no_e (r := r) hF, fun _ _ _ hF => no_e (r := r) hF, fun _ _ _ _ hF => no_e (r := r) hF⟩
  | succ n ih => exact ⟨fun h hL hF => t_X12_top_0 E d (g_X12_top n) r ih.2.1  h hL hF, fun x1 x2 h hL hF => t_X12_top_1 E d (g_X12_top n) r ih.2.2.1 ih.2.2.2 x1 x2 h hL hF, fun x2 h hL hF => t_X12_top_2 E d (g_X12_top n) r ih.2.2.2 x2 h hL hF, fun x1 x2 h hL hF => t_X12_top_3 E d (g_X12_top n) r ih.2.1 x1 x2 h hL hF⟩
theorem c_X12_top (d : Nat) (h : Hp) (r : Int × Hp) (hL : Lay h) (hF : f_X12_top  h = some r) : Sp mX12_top (d + 1) (0, 0) [xr 12 0] h (PoI r) :=
  sp_of (by decide) rfl (Nat.le_of_ble_eq_true rfl) (ls := [some (xr 12 0), none, none]) rfl (fun E _ => (u_X12_top E d r FU).1  h hL hF)
theorem dX12_truth_0 : decode cX12_truth 0 = .ok (.aload_n 0, 1) := by decide +kernel
theorem dX12_truth_1 : decode cX12_truth 1 = .ok (.iconst 0, 1) := by decide +kernel
theorem dX12_truth_2 : decode cX12_truth 2 = .ok (.putfield 194, 3) := by decide +kernel
theorem dX12_truth_5 : decode cX12_truth 5 = .ok (.iload_n 1, 1) := by decide +kernel
theorem dX12_truth_6 : decode cX12_truth 6 = .ok (.ifCond .lt 16, 3) := by decide +kernel
theorem dX12_truth_9 : decode cX12_truth 9 = .ok (.iload_n 1, 1) := by decide +kernel
theorem dX12_truth_10 : decode cX12_truth 10 = .ok (.iconst 1, 1) := by decide +kernel
theorem dX12_truth_11 : decode cX12_truth 11 = .ok (.aload_n 0, 1) := by decide +kernel
theorem dX12_truth_12 : decode cX12_truth 12 = .ok (.getfield 13, 3) := by decide +kernel
theorem dX12_truth_15 : decode cX12_truth 15 = .ok (.bipush 13, 2) := by decide +kernel
theorem dX12_truth_17 : decode cX12_truth 17 = .ok (.iaload, 1) := by decide +kernel
theorem dX12_truth_18 : decode cX12_truth 18 = .ok (.ishl, 1) := by decide +kernel
theorem dX12_truth_19 : decode cX12_truth 19 = .ok (.if_icmp .lt 5, 3) := by decide +kernel
theorem dX12_truth_22 : decode cX12_truth 22 = .ok (.iconst 0, 1) := by decide +kernel
theorem dX12_truth_23 : decode cX12_truth 23 = .ok (.ireturn, 1) := by decide +kernel
theorem dX12_truth_24 : decode cX12_truth 24 = .ok (.aload_n 0, 1) := by decide +kernel
theorem dX12_truth_25 : decode cX12_truth 25 = .ok (.getfield 105, 3) := by decide +kernel
theorem dX12_truth_28 : decode cX12_truth 28 = .ok (.iconst 0, 1) := by decide +kernel
theorem dX12_truth_29 : decode cX12_truth 29 = .ok (.iload_n 1, 1) := by decide +kernel
theorem dX12_truth_30 : decode cX12_truth 30 = .ok (.iastore, 1) := by decide +kernel
theorem dX12_truth_31 : decode cX12_truth 31 = .ok (.iconst 1, 1) := by decide +kernel
theorem dX12_truth_32 : decode cX12_truth 32 = .ok (.ireturn, 1) := by decide +kernel
noncomputable def b_X12_truth_0 (rec : Rk) (x1 : Int) (h : Hp) : Option (Int × Hp) :=
  lt (sI h 12 0 0 0) fun h1 =>
  if x1 < 0 then (
    some (0, h1)
  ) else (
    ck (0 ≤ (13 : Int) ∧ (13 : Int) < 30) <|
    if x1 < (bshl 1 (gI h1 61 0 13)) then (
      ck (0 ≤ (0 : Int) ∧ (0 : Int) < 23) <|
      lt (sI h1 90 0 0 x1) fun h2 =>
      some (1, h2)
    ) else (
      some (0, h1)
    )
  )
noncomputable def g_X12_truth (n : Nat) : Rk := Nat.rec (motive := fun _ => Rk) (fun _ _ _ => none) (fun _ rec k l h => if k = 0 then b_X12_truth_0 rec (l.getD 0 0) h else none) n
noncomputable def f_X12_truth (x1 : Int) (h : Hp) : Option (Int × Hp) := g_X12_truth FU 0 [x1] h
set_option maxHeartbeats 4000000 in
set_option maxRecDepth 100000 in
theorem t_X12_truth_0 (E : xE) (d : Nat) (rec : Rk) (r : Int × Hp) (x1 : Int) (h : Hp) (hL : Lay h) (hF : b_X12_truth_0 rec x1 h = some r) : X E mX12_truth (d + 1) (0, 0) (0, 0) 0 [some (xr 12 0), some (xi x1)] [] h (PoI r) := by
  unfold b_X12_truth_0 at hF
  refine x_aload_n (i := 0) (b := 1) dX12_truth_0 rfl rfl rfl ?_
  refine x_iconst (n := 0) (b := 2) dX12_truth_1 (by decide) rfl ?_
  refine x_putI (b := 5) fk_X12_194 dX12_truth_2 rfl rfl 0 rfl ?_
  obtain ⟨h1, e_h1, hF⟩ := lt_e hF
  refine x_hp (h2 := h1) e_h1 ?_
  replace hL : Lay h1 := by rw [← e_h1]; exact hL
  refine x_iload_n (i := 1) (b := 6) dX12_truth_5 rfl rfl rfl ?_
  refine x_if_lt (tgt := 22) (b := 9) dX12_truth_6 (by decide) rfl (fun hc => ?_) (fun hc => ?_)
  · replace hF := br_T hc hF
    refine x_iconst (n := 0) (b := 23) dX12_truth_22 (by decide) rfl ?_
    refine x_zreturn dX12_truth_23 rfl ⟨Nat.le_refl _, Nat.le_refl _⟩ (by decide) ?_
    cases hF
    exact ⟨rfl, rfl, hL⟩
  · replace hF := br_F hc hF
    refine x_iload_n (i := 1) (b := 10) dX12_truth_9 rfl rfl rfl ?_
    refine x_iconst (n := 1) (b := 11) dX12_truth_10 (by decide) rfl ?_
    refine x_aload_n (i := 0) (b := 12) dX12_truth_11 rfl rfl rfl ?_
    refine x_getL (j := 0) (t := (61, 0, true)) (b := 15) fk_X12_13 dX12_truth_12 rfl hL rfl rfl rfl ?_
    refine x_bipush (n := 13) (b := 17) dX12_truth_15 (by decide) rfl ?_
    obtain ⟨hs, hF⟩ := ck_e hF
    refine x_iald (v := gI h1 61 0 13) (b := 18) ak_61 dX12_truth_17 hs rfl rfl ?_
    refine x_ishl (b := 19) dX12_truth_18 rfl ?_
    refine x_icmp_lt (tgt := 24) (b := 22) dX12_truth_19 (by decide) rfl (fun hc => ?_) (fun hc => ?_)
    · replace hF := br_T hc hF
      refine x_aload_n (i := 0) (b := 25) dX12_truth_24 rfl rfl rfl ?_
      refine x_getL (j := 0) (t := (90, 0, true)) (b := 28) fk_X12_105 dX12_truth_25 rfl hL rfl rfl rfl ?_
      refine x_iconst (n := 0) (b := 29) dX12_truth_28 (by decide) rfl ?_
      refine x_iload_n (i := 1) (b := 30) dX12_truth_29 rfl rfl rfl ?_
      obtain ⟨hs, hF⟩ := ck_e hF
      have hs1 := hs
      refine x_iast (b := 31) ak_90 dX12_truth_30 hs1 rfl ?_
      obtain ⟨h2, e_h2, hF⟩ := lt_e hF
      refine x_hp (h2 := h2) e_h2 ?_
      replace hL : Lay h2 := by rw [← e_h2]; exact hL
      refine x_iconst (n := 1) (b := 32) dX12_truth_31 (by decide) rfl ?_
      refine x_zreturn dX12_truth_32 rfl ⟨Nat.le_refl _, Nat.le_refl _⟩ (by decide) ?_
      cases hF
      exact ⟨rfl, rfl, hL⟩
    · replace hF := br_F hc hF
      refine x_iconst (n := 0) (b := 23) dX12_truth_22 (by decide) rfl ?_
      refine x_zreturn dX12_truth_23 rfl ⟨Nat.le_refl _, Nat.le_refl _⟩ (by decide) ?_
      cases hF
      exact ⟨rfl, rfl, hL⟩
set_option maxHeartbeats 4000000 in
set_option maxRecDepth 100000 in
theorem u_X12_truth (E : xE) (d : Nat) (r : Int × Hp) : ∀ n : Nat, (∀ (x1 : Int) (h : Hp), Lay h → g_X12_truth n 0 [x1] h = some r → X E mX12_truth (d + 1) (0, 0) (0, 0) 0 [some (xr 12 0), some (xi x1)] [] h (PoI r)) := by
  intro n
  induction n with
  | zero => exact fun _ _ _ hF => no_e (r := r) hF
  | succ n ih => exact fun x1 h hL hF => t_X12_truth_0 E d (g_X12_truth n) r  x1 h hL hF
theorem c_X12_truth (d : Nat) (x1 : Int) (h : Hp) (r : Int × Hp) (hL : Lay h) (hF : f_X12_truth x1 h = some r) : Sp mX12_truth (d + 1) (0, 0) [xr 12 0, xi x1] h (PoI r) :=
  sp_of (by decide) rfl (Nat.le_of_ble_eq_true rfl) (ls := [some (xr 12 0), some (xi x1)]) rfl (fun E _ => (u_X12_truth E d r FU) x1 h hL hF)
theorem dX12_undo_0 : decode cX12_undo 0 = .ok (.aload_n 0, 1) := by decide +kernel
theorem dX12_undo_1 : decode cX12_undo 1 = .ok (.iconst 0, 1) := by decide +kernel
theorem dX12_undo_2 : decode cX12_undo 2 = .ok (.putfield 194, 3) := by decide +kernel
theorem dX12_undo_5 : decode cX12_undo 5 = .ok (.aload_n 0, 1) := by decide +kernel
theorem dX12_undo_6 : decode cX12_undo 6 = .ok (.getfield 371, 3) := by decide +kernel
theorem dX12_undo_9 : decode cX12_undo 9 = .ok (.ifCond .ne 5, 3) := by decide +kernel
theorem dX12_undo_12 : decode cX12_undo 12 = .ok (.iconst (-1), 1) := by decide +kernel
theorem dX12_undo_13 : decode cX12_undo 13 = .ok (.ireturn, 1) := by decide +kernel
theorem dX12_undo_14 : decode cX12_undo 14 = .ok (.aload_n 0, 1) := by decide +kernel
theorem dX12_undo_15 : decode cX12_undo 15 = .ok (.dup, 1) := by decide +kernel
theorem dX12_undo_16 : decode cX12_undo 16 = .ok (.getfield 371, 3) := by decide +kernel
theorem dX12_undo_19 : decode cX12_undo 19 = .ok (.iconst 1, 1) := by decide +kernel
theorem dX12_undo_20 : decode cX12_undo 20 = .ok (.isub, 1) := by decide +kernel
theorem dX12_undo_21 : decode cX12_undo 21 = .ok (.putfield 371, 3) := by decide +kernel
theorem dX12_undo_24 : decode cX12_undo 24 = .ok (.aload_n 0, 1) := by decide +kernel
theorem dX12_undo_25 : decode cX12_undo 25 = .ok (.iconst 0, 1) := by decide +kernel
theorem dX12_undo_26 : decode cX12_undo 26 = .ok (.iconst 3, 1) := by decide +kernel
theorem dX12_undo_27 : decode cX12_undo 27 = .ok (.aload_n 0, 1) := by decide +kernel
theorem dX12_undo_28 : decode cX12_undo 28 = .ok (.getfield 371, 3) := by decide +kernel
theorem dX12_undo_31 : decode cX12_undo 31 = .ok (.iadd, 1) := by decide +kernel
theorem dX12_undo_32 : decode cX12_undo 32 = .ok (.invokevirtual 468, 3) := by decide +kernel
theorem dX12_undo_35 : decode cX12_undo 35 = .ok (.aload_n 0, 1) := by decide +kernel
theorem dX12_undo_36 : decode cX12_undo 36 = .ok (.getfield 371, 3) := by decide +kernel
theorem dX12_undo_39 : decode cX12_undo 39 = .ok (.ireturn, 1) := by decide +kernel
noncomputable def b_X12_undo_0 (rec : Rk) (h : Hp) : Option (Int × Hp) :=
  lt (sI h 12 0 0 0) fun h1 =>
  if (gI h1 12 0 54) = 0 then (
    some ((-1), h1)
  ) else (
    ck (-2147483648 ≤ (gI h1 12 0 54) - 1 ∧ (gI h1 12 0 54) - 1 < 2147483648) <|
    lt (sI h1 12 0 54 ((gI h1 12 0 54) - 1)) fun h2 =>
    ck (-2147483648 ≤ 3 + (gI h2 12 0 54) ∧ 3 + (gI h2 12 0 54) < 2147483648) <|
    bd (f_X12_copies 0 (3 + (gI h2 12 0 54)) h2) fun v3 h4 =>
    some (gI h4 12 0 54, h4)
  )
noncomputable def g_X12_undo (n : Nat) : Rk := Nat.rec (motive := fun _ => Rk) (fun _ _ _ => none) (fun _ rec k l h => if k = 0 then b_X12_undo_0 rec  h else none) n
noncomputable def f_X12_undo (h : Hp) : Option (Int × Hp) := g_X12_undo FU 0 [] h
set_option maxHeartbeats 4000000 in
set_option maxRecDepth 100000 in
theorem t_X12_undo_0 (E : xE) (d : Nat) (rec : Rk) (r : Int × Hp) (h : Hp) (hL : Lay h) (hF : b_X12_undo_0 rec  h = some r) : X E mX12_undo (d + 2) (0, 0) (0, 0) 0 [some (xr 12 0)] [] h (PoI r) := by
  unfold b_X12_undo_0 at hF
  refine x_aload_n (i := 0) (b := 1) dX12_undo_0 rfl rfl rfl ?_
  refine x_iconst (n := 0) (b := 2) dX12_undo_1 (by decide) rfl ?_
  refine x_putI (b := 5) fk_X12_194 dX12_undo_2 rfl rfl 0 rfl ?_
  obtain ⟨h1, e_h1, hF⟩ := lt_e hF
  refine x_hp (h2 := h1) e_h1 ?_
  replace hL : Lay h1 := by rw [← e_h1]; exact hL
  refine x_aload_n (i := 0) (b := 6) dX12_undo_5 rfl rfl rfl ?_
  refine x_getI (v := gI h1 12 0 54) (b := 9) fk_X12_371 dX12_undo_6 (by decide) rfl rfl ?_
  refine x_if_ne (tgt := 14) (b := 12) dX12_undo_9 (by decide) rfl (fun hc => ?_) (fun hc => ?_)
  · replace hF := br_F hc hF
    refine x_aload_n (i := 0) (b := 15) dX12_undo_14 rfl rfl rfl ?_
    refine x_dup (b := 16) dX12_undo_15 rfl rfl ?_
    refine x_getI (v := gI h1 12 0 54) (b := 19) fk_X12_371 dX12_undo_16 (by decide) rfl rfl ?_
    refine x_iconst (n := 1) (b := 20) dX12_undo_19 (by decide) rfl ?_
    obtain ⟨hs, hF⟩ := ck_e hF
    refine x_isub (b := 21) dX12_undo_20 hs rfl ?_
    refine x_putI (b := 24) fk_X12_371 dX12_undo_21 rfl rfl 54 rfl ?_
    obtain ⟨h2, e_h2, hF⟩ := lt_e hF
    refine x_hp (h2 := h2) e_h2 ?_
    replace hL : Lay h2 := by rw [← e_h2]; exact hL
    refine x_aload_n (i := 0) (b := 25) dX12_undo_24 rfl rfl rfl ?_
    refine x_iconst (n := 0) (b := 26) dX12_undo_25 (by decide) rfl ?_
    refine x_iconst (n := 3) (b := 27) dX12_undo_26 (by decide) rfl ?_
    refine x_aload_n (i := 0) (b := 28) dX12_undo_27 rfl rfl rfl ?_
    refine x_getI (v := gI h2 12 0 54) (b := 31) fk_X12_371 dX12_undo_28 (by decide) rfl rfl ?_
    obtain ⟨hs, hF⟩ := ck_e hF
    refine x_iadd (b := 32) dX12_undo_31 hs rfl ?_
    obtain ⟨v3, h4, hq, hF⟩ := bd_e hF
    refine x_callV (as := [xi 0, xi (3 + (gI h2 12 0 54))]) (rest := []) (b := 35) (c_X12_copies d 0 (3 + (gI h2 12 0 54)) h2 _ hL hq) dX12_undo_32 cw_X12_468 ⟨_, _, rfl, Nat.le_of_ble_eq_true rfl⟩ rfl rfl (Nat.le_of_ble_eq_true rfl) ⟨Nat.le_refl _, Nat.le_refl _⟩ rfl (fun rv hh hp _ => ?_)
    obtain ⟨rfl, rfl, hL⟩ := hp
    refine x_aload_n (i := 0) (b := 36) dX12_undo_35 rfl rfl rfl ?_
    refine x_getI (v := gI h4 12 0 54) (b := 39) fk_X12_371 dX12_undo_36 (by decide) rfl rfl ?_
    refine x_ireturn dX12_undo_39 rfl ⟨Nat.le_refl _, Nat.le_refl _⟩ ?_
    cases hF
    exact ⟨rfl, rfl, hL⟩
  · replace hF := br_T hc hF
    refine x_iconst (n := (-1)) (b := 13) dX12_undo_12 (by decide) rfl ?_
    refine x_ireturn dX12_undo_13 rfl ⟨Nat.le_refl _, Nat.le_refl _⟩ ?_
    cases hF
    exact ⟨rfl, rfl, hL⟩
set_option maxHeartbeats 4000000 in
set_option maxRecDepth 100000 in
theorem u_X12_undo (E : xE) (d : Nat) (r : Int × Hp) : ∀ n : Nat, (∀ (h : Hp), Lay h → g_X12_undo n 0 [] h = some r → X E mX12_undo (d + 2) (0, 0) (0, 0) 0 [some (xr 12 0)] [] h (PoI r)) := by
  intro n
  induction n with
  | zero => exact fun _ _ hF => no_e (r := r) hF
  | succ n ih => exact fun h hL hF => t_X12_undo_0 E d (g_X12_undo n) r   h hL hF
theorem c_X12_undo (d : Nat) (h : Hp) (r : Int × Hp) (hL : Lay h) (hF : f_X12_undo  h = some r) : Sp mX12_undo (d + 2) (0, 0) [xr 12 0] h (PoI r) :=
  sp_of (by decide) rfl (Nat.le_of_ble_eq_true rfl) (ls := [some (xr 12 0)]) rfl (fun E _ => (u_X12_undo E d r FU)  h hL hF)
theorem dX12_washed_0 : decode cX12_washed 0 = .ok (.aload_n 0, 1) := by decide +kernel
theorem dX12_washed_1 : decode cX12_washed 1 = .ok (.iconst 0, 1) := by decide +kernel
theorem dX12_washed_2 : decode cX12_washed 2 = .ok (.putfield 194, 3) := by decide +kernel
theorem dX12_washed_5 : decode cX12_washed 5 = .ok (.iload_n 1, 1) := by decide +kernel
theorem dX12_washed_6 : decode cX12_washed 6 = .ok (.ifCond .lt 32, 3) := by decide +kernel
theorem dX12_washed_9 : decode cX12_washed 9 = .ok (.iload_n 1, 1) := by decide +kernel
theorem dX12_washed_10 : decode cX12_washed 10 = .ok (.aload_n 0, 1) := by decide +kernel
theorem dX12_washed_11 : decode cX12_washed 11 = .ok (.getfield 87, 3) := by decide +kernel
theorem dX12_washed_14 : decode cX12_washed 14 = .ok (.iconst 0, 1) := by decide +kernel
theorem dX12_washed_15 : decode cX12_washed 15 = .ok (.iaload, 1) := by decide +kernel
theorem dX12_washed_16 : decode cX12_washed 16 = .ok (.if_icmp .ge 22, 3) := by decide +kernel
theorem dX12_washed_19 : decode cX12_washed 19 = .ok (.iload_n 2, 1) := by decide +kernel
theorem dX12_washed_20 : decode cX12_washed 20 = .ok (.ifCond .lt 18, 3) := by decide +kernel
theorem dX12_washed_23 : decode cX12_washed 23 = .ok (.iload_n 2, 1) := by decide +kernel
theorem dX12_washed_24 : decode cX12_washed 24 = .ok (.bipush 99, 2) := by decide +kernel
theorem dX12_washed_26 : decode cX12_washed 26 = .ok (.if_icmp .gt 12, 3) := by decide +kernel
theorem dX12_washed_29 : decode cX12_washed 29 = .ok (.aload_n 0, 1) := by decide +kernel
theorem dX12_washed_30 : decode cX12_washed 30 = .ok (.getfield 364, 3) := by decide +kernel
theorem dX12_washed_33 : decode cX12_washed 33 = .ok (.bipush 32, 2) := by decide +kernel
theorem dX12_washed_35 : decode cX12_washed 35 = .ok (.if_icmp .ne 7, 3) := by decide +kernel
theorem dX12_washed_38 : decode cX12_washed 38 = .ok (.iconst (-1), 1) := by decide +kernel
theorem dX12_washed_39 : decode cX12_washed 39 = .ok (.goto 10, 3) := by decide +kernel
theorem dX12_washed_42 : decode cX12_washed 42 = .ok (.aload_n 0, 1) := by decide +kernel
theorem dX12_washed_43 : decode cX12_washed 43 = .ok (.iconst 1, 1) := by decide +kernel
theorem dX12_washed_44 : decode cX12_washed 44 = .ok (.iload_n 1, 1) := by decide +kernel
theorem dX12_washed_45 : decode cX12_washed 45 = .ok (.iload_n 2, 1) := by decide +kernel
theorem dX12_washed_46 : decode cX12_washed 46 = .ok (.invokevirtual 495, 3) := by decide +kernel
theorem dX12_washed_49 : decode cX12_washed 49 = .ok (.ireturn, 1) := by decide +kernel
noncomputable def b_X12_washed_0 (rec : Rk) (x1 x2 : Int) (h : Hp) : Option (Int × Hp) :=
  lt (sI h 12 0 0 0) fun h1 =>
  if x1 < 0 then (
    rec 1 [] h1
  ) else (
    ck (0 ≤ (0 : Int) ∧ (0 : Int) < 23) <|
    if (gI h1 84 0 0) ≤ x1 then (
      rec 1 [] h1
    ) else (
      if x2 < 0 then (
        rec 1 [] h1
      ) else (
        if 99 < x2 then (
          rec 1 [] h1
        ) else (
          if (gI h1 12 0 74) = 32 then (
            rec 1 [] h1
          ) else (
            bd (f_X12_added 1 x1 x2 h1) fun v2 h3 =>
            some (v2, h3)
          )
        )
      )
    )
  )
noncomputable def b_X12_washed_1 (rec : Rk) (h : Hp) : Option (Int × Hp) :=
  some ((-1), h)
noncomputable def g_X12_washed (n : Nat) : Rk := Nat.rec (motive := fun _ => Rk) (fun _ _ _ => none) (fun _ rec k l h => if k = 0 then b_X12_washed_0 rec (l.getD 0 0) (l.getD 1 0) h else if k = 1 then b_X12_washed_1 rec  h else none) n
noncomputable def f_X12_washed (x1 x2 : Int) (h : Hp) : Option (Int × Hp) := g_X12_washed FU 0 [x1, x2] h
set_option maxHeartbeats 4000000 in
set_option maxRecDepth 100000 in
theorem t_X12_washed_0 (E : xE) (d : Nat) (rec : Rk) (r : Int × Hp) (hr_38 : ∀ (h : Hp), Lay h → rec 1 [] h = some r → X E mX12_washed (d + 2) (0, 0) (0, 0) 38 [none, none, none] [] h (PoI r)) (x1 x2 : Int) (h : Hp) (hL : Lay h) (hF : b_X12_washed_0 rec x1 x2 h = some r) : X E mX12_washed (d + 2) (0, 0) (0, 0) 0 [some (xr 12 0), some (xi x1), some (xi x2)] [] h (PoI r) := by
  unfold b_X12_washed_0 at hF
  refine x_aload_n (i := 0) (b := 1) dX12_washed_0 rfl rfl rfl ?_
  refine x_iconst (n := 0) (b := 2) dX12_washed_1 (by decide) rfl ?_
  refine x_putI (b := 5) fk_X12_194 dX12_washed_2 rfl rfl 0 rfl ?_
  obtain ⟨h1, e_h1, hF⟩ := lt_e hF
  refine x_hp (h2 := h1) e_h1 ?_
  replace hL : Lay h1 := by rw [← e_h1]; exact hL
  refine x_iload_n (i := 1) (b := 6) dX12_washed_5 rfl rfl rfl ?_
  refine x_if_lt (tgt := 38) (b := 9) dX12_washed_6 (by decide) rfl (fun hc => ?_) (fun hc => ?_)
  · replace hF := br_T hc hF
    exact x_dp (ls2 := [none, none, none]) trivial (hr_38  h1 hL hF)
  · replace hF := br_F hc hF
    refine x_iload_n (i := 1) (b := 10) dX12_washed_9 rfl rfl rfl ?_
    refine x_aload_n (i := 0) (b := 11) dX12_washed_10 rfl rfl rfl ?_
    refine x_getL (j := 0) (t := (84, 0, true)) (b := 14) fk_X12_87 dX12_washed_11 rfl hL rfl rfl rfl ?_
    refine x_iconst (n := 0) (b := 15) dX12_washed_14 (by decide) rfl ?_
    obtain ⟨hs, hF⟩ := ck_e hF
    refine x_iald (v := gI h1 84 0 0) (b := 16) ak_84 dX12_washed_15 hs rfl rfl ?_
    refine x_icmp_ge (tgt := 38) (b := 19) dX12_washed_16 (by decide) rfl (fun hc => ?_) (fun hc => ?_)
    · replace hF := br_T hc hF
      exact x_dp (ls2 := [none, none, none]) trivial (hr_38  h1 hL hF)
    · replace hF := br_F hc hF
      refine x_iload_n (i := 2) (b := 20) dX12_washed_19 rfl rfl rfl ?_
      refine x_if_lt (tgt := 38) (b := 23) dX12_washed_20 (by decide) rfl (fun hc => ?_) (fun hc => ?_)
      · replace hF := br_T hc hF
        exact x_dp (ls2 := [none, none, none]) trivial (hr_38  h1 hL hF)
      · replace hF := br_F hc hF
        refine x_iload_n (i := 2) (b := 24) dX12_washed_23 rfl rfl rfl ?_
        refine x_bipush (n := 99) (b := 26) dX12_washed_24 (by decide) rfl ?_
        refine x_icmp_gt (tgt := 38) (b := 29) dX12_washed_26 (by decide) rfl (fun hc => ?_) (fun hc => ?_)
        · replace hF := br_T hc hF
          exact x_dp (ls2 := [none, none, none]) trivial (hr_38  h1 hL hF)
        · replace hF := br_F hc hF
          refine x_aload_n (i := 0) (b := 30) dX12_washed_29 rfl rfl rfl ?_
          refine x_getI (v := gI h1 12 0 74) (b := 33) fk_X12_364 dX12_washed_30 (by decide) rfl rfl ?_
          refine x_bipush (n := 32) (b := 35) dX12_washed_33 (by decide) rfl ?_
          refine x_icmp_ne (tgt := 42) (b := 38) dX12_washed_35 (by decide) rfl (fun hc => ?_) (fun hc => ?_)
          · replace hF := br_F hc hF
            refine x_aload_n (i := 0) (b := 43) dX12_washed_42 rfl rfl rfl ?_
            refine x_iconst (n := 1) (b := 44) dX12_washed_43 (by decide) rfl ?_
            refine x_iload_n (i := 1) (b := 45) dX12_washed_44 rfl rfl rfl ?_
            refine x_iload_n (i := 2) (b := 46) dX12_washed_45 rfl rfl rfl ?_
            obtain ⟨v2, h3, hq, hF⟩ := bd_e hF
            refine x_callV (as := [xi 1, xi x1, xi x2]) (rest := []) (b := 49) (c_X12_added d 1 x1 x2 h1 _ hL hq) dX12_washed_46 cw_X12_495 ⟨_, _, rfl, Nat.le_of_ble_eq_true rfl⟩ rfl rfl (Nat.le_of_ble_eq_true rfl) ⟨Nat.le_refl _, Nat.le_refl _⟩ rfl (fun rv hh hp _ => ?_)
            obtain ⟨rfl, rfl, hL⟩ := hp
            refine x_ireturn dX12_washed_49 rfl ⟨Nat.le_refl _, Nat.le_refl _⟩ ?_
            cases hF
            exact ⟨rfl, rfl, hL⟩
          · replace hF := br_T hc hF
            exact x_dp (ls2 := [none, none, none]) trivial (hr_38  h1 hL hF)
set_option maxHeartbeats 4000000 in
set_option maxRecDepth 100000 in
theorem t_X12_washed_1 (E : xE) (d : Nat) (rec : Rk) (r : Int × Hp) (h : Hp) (hL : Lay h) (hF : b_X12_washed_1 rec  h = some r) : X E mX12_washed (d + 2) (0, 0) (0, 0) 38 [none, none, none] [] h (PoI r) := by
  unfold b_X12_washed_1 at hF
  refine x_iconst (n := (-1)) (b := 39) dX12_washed_38 (by decide) rfl ?_
  refine x_goto (tgt := 49) dX12_washed_39 (by decide) ?_
  refine x_ireturn dX12_washed_49 rfl ⟨Nat.le_refl _, Nat.le_refl _⟩ ?_
  cases hF
  exact ⟨rfl, rfl, hL⟩
set_option maxHeartbeats 4000000 in
set_option maxRecDepth 100000 in
theorem u_X12_washed (E : xE) (d : Nat) (r : Int × Hp) : ∀ n : Nat, (∀ (x1 x2 : Int) (h : Hp), Lay h → g_X12_washed n 0 [x1, x2] h = some r → X E mX12_washed (d + 2) (0, 0) (0, 0) 0 [some (xr 12 0), some (xi x1), some (xi x2)] [] h (PoI r)) ∧ (∀ (h : Hp), Lay h → g_X12_washed n 1 [] h = some r → X E mX12_washed (d + 2) (0, 0) (0, 0) 38 [none, none, none] [] h (PoI r)) := by
  intro n
  induction n with
  | zero => exact ⟨fun _ _ _ _ hF => no_e (r := r) hF, fun _ _ hF => no_e (r := r) hF⟩
  | succ n ih => exact ⟨fun x1 x2 h hL hF => t_X12_washed_0 E d (g_X12_washed n) r ih.2 x1 x2 h hL hF, fun h hL hF => t_X12_washed_1 E d (g_X12_washed n) r   h hL hF⟩
theorem c_X12_washed (d : Nat) (x1 x2 : Int) (h : Hp) (r : Int × Hp) (hL : Lay h) (hF : f_X12_washed x1 x2 h = some r) : Sp mX12_washed (d + 2) (0, 0) [xr 12 0, xi x1, xi x2] h (PoI r) :=
  sp_of (by decide) rfl (Nat.le_of_ble_eq_true rfl) (ls := [some (xr 12 0), some (xi x1), some (xi x2)]) rfl (fun E _ => (u_X12_washed E d r FU).1 x1 x2 h hL hF)
theorem dX12_windOf_0 : decode cX12_windOf 0 = .ok (.aload_n 0, 1) := by decide +kernel
theorem dX12_windOf_1 : decode cX12_windOf 1 = .ok (.getfield 13, 3) := by decide +kernel
theorem dX12_windOf_4 : decode cX12_windOf 4 = .ok (.bipush 6, 2) := by decide +kernel
theorem dX12_windOf_6 : decode cX12_windOf 6 = .ok (.iaload, 1) := by decide +kernel
theorem dX12_windOf_7 : decode cX12_windOf 7 = .ok (.ifCond .ne 7, 3) := by decide +kernel
theorem dX12_windOf_10 : decode cX12_windOf 10 = .ok (.iconst 0, 1) := by decide +kernel
theorem dX12_windOf_11 : decode cX12_windOf 11 = .ok (.goto 17, 3) := by decide +kernel
theorem dX12_windOf_14 : decode cX12_windOf 14 = .ok (.aload_n 0, 1) := by decide +kernel
theorem dX12_windOf_15 : decode cX12_windOf 15 = .ok (.getfield 32, 3) := by decide +kernel
theorem dX12_windOf_18 : decode cX12_windOf 18 = .ok (.iload_n 1, 1) := by decide +kernel
theorem dX12_windOf_19 : decode cX12_windOf 19 = .ok (.aload_n 0, 1) := by decide +kernel
theorem dX12_windOf_20 : decode cX12_windOf 20 = .ok (.getfield 13, 3) := by decide +kernel
theorem dX12_windOf_23 : decode cX12_windOf 23 = .ok (.bipush 6, 2) := by decide +kernel
theorem dX12_windOf_25 : decode cX12_windOf 25 = .ok (.iaload, 1) := by decide +kernel
theorem dX12_windOf_26 : decode cX12_windOf 26 = .ok (.irem, 1) := by decide +kernel
theorem dX12_windOf_27 : decode cX12_windOf 27 = .ok (.iaload, 1) := by decide +kernel
theorem dX12_windOf_28 : decode cX12_windOf 28 = .ok (.ireturn, 1) := by decide +kernel
noncomputable def b_X12_windOf_0 (rec : Rk) (x1 : Int) (h : Hp) : Option (Int × Hp) :=
  ck (0 ≤ (6 : Int) ∧ (6 : Int) < 30) <|
  if (gI h 61 0 6) = 0 then (
    some (0, h)
  ) else (
    ck (0 ≤ (6 : Int) ∧ (6 : Int) < 30) <|
    ck ((0 : Int) ≤ x1 ∧ (0 : Int) < (gI h 61 0 6)) <|
    ck (0 ≤ (x1 % (gI h 61 0 6)) ∧ (x1 % (gI h 61 0 6)) < 16) <|
    some (gI h 67 0 (x1 % (gI h 61 0 6)), h)
  )
noncomputable def g_X12_windOf (n : Nat) : Rk := Nat.rec (motive := fun _ => Rk) (fun _ _ _ => none) (fun _ rec k l h => if k = 0 then b_X12_windOf_0 rec (l.getD 0 0) h else none) n
noncomputable def f_X12_windOf (x1 : Int) (h : Hp) : Option (Int × Hp) := g_X12_windOf FU 0 [x1] h
set_option maxHeartbeats 4000000 in
set_option maxRecDepth 100000 in
theorem t_X12_windOf_0 (E : xE) (d : Nat) (rec : Rk) (r : Int × Hp) (x1 : Int) (h : Hp) (hL : Lay h) (hF : b_X12_windOf_0 rec x1 h = some r) : X E mX12_windOf (d + 1) (0, 0) (0, 0) 0 [some (xr 12 0), some (xi x1)] [] h (PoI r) := by
  unfold b_X12_windOf_0 at hF
  refine x_aload_n (i := 0) (b := 1) dX12_windOf_0 rfl rfl rfl ?_
  refine x_getL (j := 0) (t := (61, 0, true)) (b := 4) fk_X12_13 dX12_windOf_1 rfl hL rfl rfl rfl ?_
  refine x_bipush (n := 6) (b := 6) dX12_windOf_4 (by decide) rfl ?_
  obtain ⟨hs, hF⟩ := ck_e hF
  refine x_iald (v := gI h 61 0 6) (b := 7) ak_61 dX12_windOf_6 hs rfl rfl ?_
  refine x_if_ne (tgt := 14) (b := 10) dX12_windOf_7 (by decide) rfl (fun hc => ?_) (fun hc => ?_)
  · replace hF := br_F hc hF
    refine x_aload_n (i := 0) (b := 15) dX12_windOf_14 rfl rfl rfl ?_
    refine x_getL (j := 0) (t := (67, 0, true)) (b := 18) fk_X12_32 dX12_windOf_15 rfl hL rfl rfl rfl ?_
    refine x_iload_n (i := 1) (b := 19) dX12_windOf_18 rfl rfl rfl ?_
    refine x_aload_n (i := 0) (b := 20) dX12_windOf_19 rfl rfl rfl ?_
    refine x_getL (j := 0) (t := (61, 0, true)) (b := 23) fk_X12_13 dX12_windOf_20 rfl hL rfl rfl rfl ?_
    refine x_bipush (n := 6) (b := 25) dX12_windOf_23 (by decide) rfl ?_
    obtain ⟨hs, hF⟩ := ck_e hF
    refine x_iald (v := gI h 61 0 6) (b := 26) ak_61 dX12_windOf_25 hs rfl rfl ?_
    obtain ⟨hs, hF⟩ := ck_e hF
    refine x_irem (b := 27) dX12_windOf_26 hs.1 hs.2 rfl ?_
    obtain ⟨hs, hF⟩ := ck_e hF
    refine x_iald (v := gI h 67 0 (x1 % (gI h 61 0 6))) (b := 28) ak_67 dX12_windOf_27 hs rfl rfl ?_
    refine x_ireturn dX12_windOf_28 rfl ⟨Nat.le_refl _, Nat.le_refl _⟩ ?_
    cases hF
    exact ⟨rfl, rfl, hL⟩
  · replace hF := br_T hc hF
    refine x_iconst (n := 0) (b := 11) dX12_windOf_10 (by decide) rfl ?_
    refine x_goto (tgt := 28) dX12_windOf_11 (by decide) ?_
    refine x_ireturn dX12_windOf_28 rfl ⟨Nat.le_refl _, Nat.le_refl _⟩ ?_
    cases hF
    exact ⟨rfl, rfl, hL⟩
set_option maxHeartbeats 4000000 in
set_option maxRecDepth 100000 in
theorem u_X12_windOf (E : xE) (d : Nat) (r : Int × Hp) : ∀ n : Nat, (∀ (x1 : Int) (h : Hp), Lay h → g_X12_windOf n 0 [x1] h = some r → X E mX12_windOf (d + 1) (0, 0) (0, 0) 0 [some (xr 12 0), some (xi x1)] [] h (PoI r)) := by
  intro n
  induction n with
  | zero => exact fun _ _ _ hF => no_e (r := r) hF
  | succ n ih => exact fun x1 h hL hF => t_X12_windOf_0 E d (g_X12_windOf n) r  x1 h hL hF
theorem c_X12_windOf (d : Nat) (x1 : Int) (h : Hp) (r : Int × Hp) (hL : Lay h) (hF : f_X12_windOf x1 h = some r) : Sp mX12_windOf (d + 1) (0, 0) [xr 12 0, xi x1] h (PoI r) :=
  sp_of (by decide) rfl (Nat.le_of_ble_eq_true rfl) (ls := [some (xr 12 0), some (xi x1)]) rfl (fun E _ => (u_X12_windOf E d r FU) x1 h hL hF)
theorem dX12_works_0 : decode cX12_works 0 = .ok (.aload_n 0, 1) := by decide +kernel
theorem dX12_works_1 : decode cX12_works 1 = .ok (.getfield 139, 3) := by decide +kernel
theorem dX12_works_4 : decode cX12_works 4 = .ok (.aload_n 0, 1) := by decide +kernel
theorem dX12_works_5 : decode cX12_works 5 = .ok (.getfield 389, 3) := by decide +kernel
theorem dX12_works_8 : decode cX12_works 8 = .ok (.iconst 1, 1) := by decide +kernel
theorem dX12_works_9 : decode cX12_works 9 = .ok (.isub, 1) := by decide +kernel
theorem dX12_works_10 : decode cX12_works 10 = .ok (.laload, 1) := by decide +kernel
theorem dX12_works_11 : decode cX12_works 11 = .ok (.lstore_n 2, 1) := by decide +kernel
theorem dX12_works_12 : decode cX12_works 12 = .ok (.iload_n 1, 1) := by decide +kernel
theorem dX12_works_13 : decode cX12_works 13 = .ok (.sipush 260, 3) := by decide +kernel
theorem dX12_works_16 : decode cX12_works 16 = .ok (.if_icmp .ne 30, 3) := by decide +kernel
theorem dX12_works_19 : decode cX12_works 19 = .ok (.aload_n 0, 1) := by decide +kernel
theorem dX12_works_20 : decode cX12_works 20 = .ok (.getfield 139, 3) := by decide +kernel
theorem dX12_works_23 : decode cX12_works 23 = .ok (.aload_n 0, 1) := by decide +kernel
theorem dX12_works_24 : decode cX12_works 24 = .ok (.getfield 389, 3) := by decide +kernel
theorem dX12_works_27 : decode cX12_works 27 = .ok (.iconst 1, 1) := by decide +kernel
theorem dX12_works_28 : decode cX12_works 28 = .ok (.isub, 1) := by decide +kernel
theorem dX12_works_29 : decode cX12_works 29 = .ok (.lload_n 2, 1) := by decide +kernel
theorem dX12_works_30 : decode cX12_works 30 = .ok (.lconst 0, 1) := by decide +kernel
theorem dX12_works_31 : decode cX12_works 31 = .ok (.lcmp, 1) := by decide +kernel
theorem dX12_works_32 : decode cX12_works 32 = .ok (.ifCond .ne 7, 3) := by decide +kernel
theorem dX12_works_35 : decode cX12_works 35 = .ok (.iconst 1, 1) := by decide +kernel
theorem dX12_works_36 : decode cX12_works 36 = .ok (.goto 4, 3) := by decide +kernel
theorem dX12_works_39 : decode cX12_works 39 = .ok (.iconst 0, 1) := by decide +kernel
theorem dX12_works_40 : decode cX12_works 40 = .ok (.invokestatic 392, 3) := by decide +kernel
theorem dX12_works_43 : decode cX12_works 43 = .ok (.lastore, 1) := by decide +kernel
theorem dX12_works_44 : decode cX12_works 44 = .ok (.iconst 1, 1) := by decide +kernel
theorem dX12_works_45 : decode cX12_works 45 = .ok (.ireturn, 1) := by decide +kernel
theorem dX12_works_46 : decode cX12_works 46 = .ok (.aload_n 0, 1) := by decide +kernel
theorem dX12_works_47 : decode cX12_works 47 = .ok (.getfield 139, 3) := by decide +kernel
theorem dX12_works_50 : decode cX12_works 50 = .ok (.aload_n 0, 1) := by decide +kernel
theorem dX12_works_51 : decode cX12_works 51 = .ok (.getfield 389, 3) := by decide +kernel
theorem dX12_works_54 : decode cX12_works 54 = .ok (.iconst 2, 1) := by decide +kernel
theorem dX12_works_55 : decode cX12_works 55 = .ok (.isub, 1) := by decide +kernel
theorem dX12_works_56 : decode cX12_works 56 = .ok (.laload, 1) := by decide +kernel
theorem dX12_works_57 : decode cX12_works 57 = .ok (.lstore 4, 2) := by decide +kernel
theorem dX12_works_59 : decode cX12_works 59 = .ok (.aload_n 0, 1) := by decide +kernel
theorem dX12_works_60 : decode cX12_works 60 = .ok (.dup, 1) := by decide +kernel
theorem dX12_works_61 : decode cX12_works 61 = .ok (.getfield 389, 3) := by decide +kernel
theorem dX12_works_64 : decode cX12_works 64 = .ok (.iconst 1, 1) := by decide +kernel
theorem dX12_works_65 : decode cX12_works 65 = .ok (.isub, 1) := by decide +kernel
theorem dX12_works_66 : decode cX12_works 66 = .ok (.putfield 389, 3) := by decide +kernel
theorem dX12_works_69 : decode cX12_works 69 = .ok (.iload_n 1, 1) := by decide +kernel
theorem dX12_works_70 : decode cX12_works 70 = .ok (.lookupswitch 314 #[(42, 116), (43, 98), (45, 107), (47, 151), (60, 168), (61, 208), (62, 188), (256, 228), (257, 268), (258, 248), (261, 288)], 98) := by decide +kernel
theorem dX12_works_168 : decode cX12_works 168 = .ok (.lload 4, 2) := by decide +kernel
theorem dX12_works_170 : decode cX12_works 170 = .ok (.lload_n 2, 1) := by decide +kernel
theorem dX12_works_171 : decode cX12_works 171 = .ok (.ladd, 1) := by decide +kernel
theorem dX12_works_172 : decode cX12_works 172 = .ok (.lstore 6, 2) := by decide +kernel
theorem dX12_works_174 : decode cX12_works 174 = .ok (.goto 233, 3) := by decide +kernel
theorem dX12_works_177 : decode cX12_works 177 = .ok (.lload 4, 2) := by decide +kernel
theorem dX12_works_179 : decode cX12_works 179 = .ok (.lload_n 2, 1) := by decide +kernel
theorem dX12_works_180 : decode cX12_works 180 = .ok (.lsub, 1) := by decide +kernel
theorem dX12_works_181 : decode cX12_works 181 = .ok (.lstore 6, 2) := by decide +kernel
theorem dX12_works_183 : decode cX12_works 183 = .ok (.goto 224, 3) := by decide +kernel
theorem dX12_works_186 : decode cX12_works 186 = .ok (.lload 4, 2) := by decide +kernel
theorem dX12_works_188 : decode cX12_works 188 = .ok (.lconst 0, 1) := by decide +kernel
theorem dX12_works_189 : decode cX12_works 189 = .ok (.lcmp, 1) := by decide +kernel
theorem dX12_works_190 : decode cX12_works 190 = .ok (.ifCond .eq 22, 3) := by decide +kernel
theorem dX12_works_193 : decode cX12_works 193 = .ok (.lload_n 2, 1) := by decide +kernel
theorem dX12_works_194 : decode cX12_works 194 = .ok (.invokestatic 396, 3) := by decide +kernel
theorem dX12_works_197 : decode cX12_works 197 = .ok (.ldc2_w 402, 3) := by decide +kernel
theorem dX12_works_200 : decode cX12_works 200 = .ok (.lload 4, 2) := by decide +kernel
theorem dX12_works_202 : decode cX12_works 202 = .ok (.invokestatic 396, 3) := by decide +kernel
theorem dX12_works_205 : decode cX12_works 205 = .ok (.ldiv, 1) := by decide +kernel
theorem dX12_works_206 : decode cX12_works 206 = .ok (.lcmp, 1) := by decide +kernel
theorem dX12_works_207 : decode cX12_works 207 = .ok (.ifCond .le 5, 3) := by decide +kernel
theorem dX12_works_210 : decode cX12_works 210 = .ok (.iconst 0, 1) := by decide +kernel
theorem dX12_works_211 : decode cX12_works 211 = .ok (.ireturn, 1) := by decide +kernel
theorem dX12_works_212 : decode cX12_works 212 = .ok (.lload 4, 2) := by decide +kernel
theorem dX12_works_214 : decode cX12_works 214 = .ok (.lload_n 2, 1) := by decide +kernel
theorem dX12_works_215 : decode cX12_works 215 = .ok (.lmul, 1) := by decide +kernel
theorem dX12_works_216 : decode cX12_works 216 = .ok (.lstore 6, 2) := by decide +kernel
theorem dX12_works_218 : decode cX12_works 218 = .ok (.goto 189, 3) := by decide +kernel
theorem dX12_works_221 : decode cX12_works 221 = .ok (.lload_n 2, 1) := by decide +kernel
theorem dX12_works_222 : decode cX12_works 222 = .ok (.lconst 0, 1) := by decide +kernel
theorem dX12_works_223 : decode cX12_works 223 = .ok (.lcmp, 1) := by decide +kernel
theorem dX12_works_224 : decode cX12_works 224 = .ok (.ifCond .ne 5, 3) := by decide +kernel
theorem dX12_works_227 : decode cX12_works 227 = .ok (.iconst 0, 1) := by decide +kernel
theorem dX12_works_228 : decode cX12_works 228 = .ok (.ireturn, 1) := by decide +kernel
theorem dX12_works_229 : decode cX12_works 229 = .ok (.lload 4, 2) := by decide +kernel
theorem dX12_works_231 : decode cX12_works 231 = .ok (.lload_n 2, 1) := by decide +kernel
theorem dX12_works_232 : decode cX12_works 232 = .ok (.ldiv, 1) := by decide +kernel
theorem dX12_works_233 : decode cX12_works 233 = .ok (.lstore 6, 2) := by decide +kernel
theorem dX12_works_235 : decode cX12_works 235 = .ok (.goto 172, 3) := by decide +kernel
theorem dX12_works_238 : decode cX12_works 238 = .ok (.lload 4, 2) := by decide +kernel
theorem dX12_works_240 : decode cX12_works 240 = .ok (.lload_n 2, 1) := by decide +kernel
theorem dX12_works_241 : decode cX12_works 241 = .ok (.lcmp, 1) := by decide +kernel
theorem dX12_works_242 : decode cX12_works 242 = .ok (.ifCond .ge 7, 3) := by decide +kernel
theorem dX12_works_245 : decode cX12_works 245 = .ok (.iconst 1, 1) := by decide +kernel
theorem dX12_works_246 : decode cX12_works 246 = .ok (.goto 4, 3) := by decide +kernel
theorem dX12_works_249 : decode cX12_works 249 = .ok (.iconst 0, 1) := by decide +kernel
theorem dX12_works_250 : decode cX12_works 250 = .ok (.invokestatic 392, 3) := by decide +kernel
theorem dX12_works_253 : decode cX12_works 253 = .ok (.lstore 6, 2) := by decide +kernel
theorem dX12_works_255 : decode cX12_works 255 = .ok (.goto 152, 3) := by decide +kernel
theorem dX12_works_258 : decode cX12_works 258 = .ok (.lload 4, 2) := by decide +kernel
theorem dX12_works_260 : decode cX12_works 260 = .ok (.lload_n 2, 1) := by decide +kernel
theorem dX12_works_261 : decode cX12_works 261 = .ok (.lcmp, 1) := by decide +kernel
theorem dX12_works_262 : decode cX12_works 262 = .ok (.ifCond .le 7, 3) := by decide +kernel
theorem dX12_works_265 : decode cX12_works 265 = .ok (.iconst 1, 1) := by decide +kernel
theorem dX12_works_266 : decode cX12_works 266 = .ok (.goto 4, 3) := by decide +kernel
theorem dX12_works_269 : decode cX12_works 269 = .ok (.iconst 0, 1) := by decide +kernel
theorem dX12_works_270 : decode cX12_works 270 = .ok (.invokestatic 392, 3) := by decide +kernel
theorem dX12_works_273 : decode cX12_works 273 = .ok (.lstore 6, 2) := by decide +kernel
theorem dX12_works_275 : decode cX12_works 275 = .ok (.goto 132, 3) := by decide +kernel
theorem dX12_works_278 : decode cX12_works 278 = .ok (.lload 4, 2) := by decide +kernel
theorem dX12_works_280 : decode cX12_works 280 = .ok (.lload_n 2, 1) := by decide +kernel
theorem dX12_works_281 : decode cX12_works 281 = .ok (.lcmp, 1) := by decide +kernel
theorem dX12_works_282 : decode cX12_works 282 = .ok (.ifCond .ne 7, 3) := by decide +kernel
theorem dX12_works_285 : decode cX12_works 285 = .ok (.iconst 1, 1) := by decide +kernel
theorem dX12_works_286 : decode cX12_works 286 = .ok (.goto 4, 3) := by decide +kernel
theorem dX12_works_289 : decode cX12_works 289 = .ok (.iconst 0, 1) := by decide +kernel
theorem dX12_works_290 : decode cX12_works 290 = .ok (.invokestatic 392, 3) := by decide +kernel
theorem dX12_works_293 : decode cX12_works 293 = .ok (.lstore 6, 2) := by decide +kernel
theorem dX12_works_295 : decode cX12_works 295 = .ok (.goto 112, 3) := by decide +kernel
theorem dX12_works_298 : decode cX12_works 298 = .ok (.lload 4, 2) := by decide +kernel
theorem dX12_works_300 : decode cX12_works 300 = .ok (.lload_n 2, 1) := by decide +kernel
theorem dX12_works_301 : decode cX12_works 301 = .ok (.lcmp, 1) := by decide +kernel
theorem dX12_works_302 : decode cX12_works 302 = .ok (.ifCond .gt 7, 3) := by decide +kernel
theorem dX12_works_305 : decode cX12_works 305 = .ok (.iconst 1, 1) := by decide +kernel
theorem dX12_works_306 : decode cX12_works 306 = .ok (.goto 4, 3) := by decide +kernel
theorem dX12_works_309 : decode cX12_works 309 = .ok (.iconst 0, 1) := by decide +kernel
theorem dX12_works_310 : decode cX12_works 310 = .ok (.invokestatic 392, 3) := by decide +kernel
theorem dX12_works_313 : decode cX12_works 313 = .ok (.lstore 6, 2) := by decide +kernel
theorem dX12_works_315 : decode cX12_works 315 = .ok (.goto 92, 3) := by decide +kernel
theorem dX12_works_318 : decode cX12_works 318 = .ok (.lload 4, 2) := by decide +kernel
theorem dX12_works_320 : decode cX12_works 320 = .ok (.lload_n 2, 1) := by decide +kernel
theorem dX12_works_321 : decode cX12_works 321 = .ok (.lcmp, 1) := by decide +kernel
theorem dX12_works_322 : decode cX12_works 322 = .ok (.ifCond .lt 7, 3) := by decide +kernel
theorem dX12_works_325 : decode cX12_works 325 = .ok (.iconst 1, 1) := by decide +kernel
theorem dX12_works_326 : decode cX12_works 326 = .ok (.goto 4, 3) := by decide +kernel
theorem dX12_works_329 : decode cX12_works 329 = .ok (.iconst 0, 1) := by decide +kernel
theorem dX12_works_330 : decode cX12_works 330 = .ok (.invokestatic 392, 3) := by decide +kernel
theorem dX12_works_333 : decode cX12_works 333 = .ok (.lstore 6, 2) := by decide +kernel
theorem dX12_works_335 : decode cX12_works 335 = .ok (.goto 72, 3) := by decide +kernel
theorem dX12_works_338 : decode cX12_works 338 = .ok (.lload 4, 2) := by decide +kernel
theorem dX12_works_340 : decode cX12_works 340 = .ok (.lload_n 2, 1) := by decide +kernel
theorem dX12_works_341 : decode cX12_works 341 = .ok (.lcmp, 1) := by decide +kernel
theorem dX12_works_342 : decode cX12_works 342 = .ok (.ifCond .eq 7, 3) := by decide +kernel
theorem dX12_works_345 : decode cX12_works 345 = .ok (.iconst 1, 1) := by decide +kernel
theorem dX12_works_346 : decode cX12_works 346 = .ok (.goto 4, 3) := by decide +kernel
theorem dX12_works_349 : decode cX12_works 349 = .ok (.iconst 0, 1) := by decide +kernel
theorem dX12_works_350 : decode cX12_works 350 = .ok (.invokestatic 392, 3) := by decide +kernel
theorem dX12_works_353 : decode cX12_works 353 = .ok (.lstore 6, 2) := by decide +kernel
theorem dX12_works_355 : decode cX12_works 355 = .ok (.goto 52, 3) := by decide +kernel
theorem dX12_works_358 : decode cX12_works 358 = .ok (.lload 4, 2) := by decide +kernel
theorem dX12_works_360 : decode cX12_works 360 = .ok (.lconst 0, 1) := by decide +kernel
theorem dX12_works_361 : decode cX12_works 361 = .ok (.lcmp, 1) := by decide +kernel
theorem dX12_works_362 : decode cX12_works 362 = .ok (.ifCond .eq 13, 3) := by decide +kernel
theorem dX12_works_365 : decode cX12_works 365 = .ok (.lload_n 2, 1) := by decide +kernel
theorem dX12_works_366 : decode cX12_works 366 = .ok (.lconst 0, 1) := by decide +kernel
theorem dX12_works_367 : decode cX12_works 367 = .ok (.lcmp, 1) := by decide +kernel
theorem dX12_works_368 : decode cX12_works 368 = .ok (.ifCond .eq 7, 3) := by decide +kernel
theorem dX12_works_371 : decode cX12_works 371 = .ok (.iconst 1, 1) := by decide +kernel
theorem dX12_works_372 : decode cX12_works 372 = .ok (.goto 4, 3) := by decide +kernel
theorem dX12_works_375 : decode cX12_works 375 = .ok (.iconst 0, 1) := by decide +kernel
theorem dX12_works_376 : decode cX12_works 376 = .ok (.invokestatic 392, 3) := by decide +kernel
theorem dX12_works_379 : decode cX12_works 379 = .ok (.lstore 6, 2) := by decide +kernel
theorem dX12_works_381 : decode cX12_works 381 = .ok (.goto 26, 3) := by decide +kernel
theorem dX12_works_384 : decode cX12_works 384 = .ok (.lload 4, 2) := by decide +kernel
theorem dX12_works_386 : decode cX12_works 386 = .ok (.lconst 0, 1) := by decide +kernel
theorem dX12_works_387 : decode cX12_works 387 = .ok (.lcmp, 1) := by decide +kernel
theorem dX12_works_388 : decode cX12_works 388 = .ok (.ifCond .ne 9, 3) := by decide +kernel
theorem dX12_works_391 : decode cX12_works 391 = .ok (.lload_n 2, 1) := by decide +kernel
theorem dX12_works_392 : decode cX12_works 392 = .ok (.lconst 0, 1) := by decide +kernel
theorem dX12_works_393 : decode cX12_works 393 = .ok (.lcmp, 1) := by decide +kernel
theorem dX12_works_394 : decode cX12_works 394 = .ok (.ifCond .eq 7, 3) := by decide +kernel
theorem dX12_works_397 : decode cX12_works 397 = .ok (.iconst 1, 1) := by decide +kernel
theorem dX12_works_398 : decode cX12_works 398 = .ok (.goto 4, 3) := by decide +kernel
theorem dX12_works_401 : decode cX12_works 401 = .ok (.iconst 0, 1) := by decide +kernel
theorem dX12_works_402 : decode cX12_works 402 = .ok (.invokestatic 392, 3) := by decide +kernel
theorem dX12_works_405 : decode cX12_works 405 = .ok (.lstore 6, 2) := by decide +kernel
theorem dX12_works_407 : decode cX12_works 407 = .ok (.aload_n 0, 1) := by decide +kernel
theorem dX12_works_408 : decode cX12_works 408 = .ok (.getfield 139, 3) := by decide +kernel
theorem dX12_works_411 : decode cX12_works 411 = .ok (.aload_n 0, 1) := by decide +kernel
theorem dX12_works_412 : decode cX12_works 412 = .ok (.getfield 389, 3) := by decide +kernel
theorem dX12_works_415 : decode cX12_works 415 = .ok (.iconst 1, 1) := by decide +kernel
theorem dX12_works_416 : decode cX12_works 416 = .ok (.isub, 1) := by decide +kernel
theorem dX12_works_417 : decode cX12_works 417 = .ok (.lload 6, 2) := by decide +kernel
theorem dX12_works_419 : decode cX12_works 419 = .ok (.lastore, 1) := by decide +kernel
theorem dX12_works_420 : decode cX12_works 420 = .ok (.lload 6, 2) := by decide +kernel
theorem dX12_works_422 : decode cX12_works 422 = .ok (.ldc2_w 402, 3) := by decide +kernel
theorem dX12_works_425 : decode cX12_works 425 = .ok (.lcmp, 1) := by decide +kernel
theorem dX12_works_426 : decode cX12_works 426 = .ok (.ifCond .gt 16, 3) := by decide +kernel
theorem dX12_works_429 : decode cX12_works 429 = .ok (.lload 6, 2) := by decide +kernel
theorem dX12_works_431 : decode cX12_works 431 = .ok (.ldc2_w 404, 3) := by decide +kernel
theorem dX12_works_434 : decode cX12_works 434 = .ok (.lcmp, 1) := by decide +kernel
theorem dX12_works_435 : decode cX12_works 435 = .ok (.ifCond .lt 7, 3) := by decide +kernel
theorem dX12_works_438 : decode cX12_works 438 = .ok (.iconst 1, 1) := by decide +kernel
theorem dX12_works_439 : decode cX12_works 439 = .ok (.goto 4, 3) := by decide +kernel
theorem dX12_works_442 : decode cX12_works 442 = .ok (.iconst 0, 1) := by decide +kernel
theorem dX12_works_443 : decode cX12_works 443 = .ok (.ireturn, 1) := by decide +kernel
noncomputable def b_X12_works_0 (rec : Rk) (x1 : Int) (h : Hp) : Option (Int × Hp) :=
  ck (-2147483648 ≤ (gI h 12 0 60) - 1 ∧ (gI h 12 0 60) - 1 < 2147483648) <|
  ck (0 ≤ ((gI h 12 0 60) - 1) ∧ ((gI h 12 0 60) - 1) < 64) <|
  lt (gI h 99 0 ((gI h 12 0 60) - 1)) fun z1 =>
  if x1 = 260 then (
    ck (-2147483648 ≤ (gI h 12 0 60) - 1 ∧ (gI h 12 0 60) - 1 < 2147483648) <|
    if (lc z1 0) = 0 then (
      rec 1 [1, (gI h 12 0 60) - 1] h
    ) else (
      rec 1 [0, (gI h 12 0 60) - 1] h
    )
  ) else (
    ck (-2147483648 ≤ (gI h 12 0 60) - 2 ∧ (gI h 12 0 60) - 2 < 2147483648) <|
    ck (0 ≤ ((gI h 12 0 60) - 2) ∧ ((gI h 12 0 60) - 2) < 64) <|
    lt (gI h 99 0 ((gI h 12 0 60) - 2)) fun z2 =>
    ck (-2147483648 ≤ (gI h 12 0 60) - 1 ∧ (gI h 12 0 60) - 1 < 2147483648) <|
    lt (sI h 12 0 60 ((gI h 12 0 60) - 1)) fun h3 =>
    if x1 = 42 then (
      if (lc z2 0) = 0 then (
        rec 2 [z1, z2] h3
      ) else (
        ck (-9223372036854775808 < z1) <|
        ck (-9223372036854775808 < z2) <|
        ck ((if 0 < z2 then z2 else -z2) ≠ (0 : Int) ∧ -9223372036854775808 ≤ Int.tdiv 1000000000000 (if 0 < z2 then z2 else -z2) ∧ Int.tdiv 1000000000000 (if 0 < z2 then z2 else -z2) < 9223372036854775808) <|
        if (lc (if 0 < z1 then z1 else -z1) (Int.tdiv 1000000000000 (if 0 < z2 then z2 else -z2))) ≤ 0 then (
          rec 2 [z1, z2] h3
        ) else (
          some (0, h3)
        )
      )
    ) else (
    if x1 = 43 then (
      ck (-9223372036854775808 ≤ z2 + z1 ∧ z2 + z1 < 9223372036854775808) <|
      lt (z2 + z1) fun z4 =>
      rec 13 [z4] h3
    ) else (
    if x1 = 45 then (
      ck (-9223372036854775808 ≤ z2 - z1 ∧ z2 - z1 < 9223372036854775808) <|
      lt (z2 - z1) fun z5 =>
      rec 13 [z5] h3
    ) else (
    if x1 = 47 then (
      if (lc z1 0) = 0 then (
        some (0, h3)
      ) else (
        ck (z1 ≠ (0 : Int) ∧ -9223372036854775808 ≤ Int.tdiv z2 z1 ∧ Int.tdiv z2 z1 < 9223372036854775808) <|
        lt (Int.tdiv z2 z1) fun z6 =>
        rec 13 [z6] h3
      )
    ) else (
    if x1 = 60 then (
      if 0 ≤ (lc z2 z1) then (
        rec 3 [0] h3
      ) else (
        rec 3 [1] h3
      )
    ) else (
    if x1 = 61 then (
      if (lc z2 z1) = 0 then (
        rec 5 [1] h3
      ) else (
        rec 5 [0] h3
      )
    ) else (
    if x1 = 62 then (
      if (lc z2 z1) ≤ 0 then (
        rec 4 [0] h3
      ) else (
        rec 4 [1] h3
      )
    ) else (
    if x1 = 256 then (
      if 0 < (lc z2 z1) then (
        rec 6 [0] h3
      ) else (
        rec 6 [1] h3
      )
    ) else (
    if x1 = 257 then (
      if (lc z2 z1) = 0 then (
        rec 8 [0] h3
      ) else (
        rec 8 [1] h3
      )
    ) else (
    if x1 = 258 then (
      if (lc z2 z1) < 0 then (
        rec 7 [0] h3
      ) else (
        rec 7 [1] h3
      )
    ) else (
    if x1 = 261 then (
      if (lc z2 0) = 0 then (
        rec 9 [] h3
      ) else (
        if (lc z1 0) = 0 then (
          rec 9 [] h3
        ) else (
          rec 10 [1] h3
        )
      )
    ) else (
    if (lc z2 0) = 0 then (
      if (lc z1 0) = 0 then (
        rec 12 [0] h3
      ) else (
        rec 11 [] h3
      )
    ) else (
      rec 11 [] h3
    )
    )
    )
    )
    )
    )
    )
    )
    )
    )
    )
    )
  )
noncomputable def b_X12_works_1 (rec : Rk) (y0 y1 : Int) (h : Hp) : Option (Int × Hp) :=
  bd (f_X12_is y0 h) fun v1 h2 =>
  ck (0 ≤ y1 ∧ y1 < 64) <|
  lt (sI h2 99 0 y1 v1) fun h3 =>
  some (1, h3)
noncomputable def b_X12_works_2 (rec : Rk) (x2 x4 : Int) (h : Hp) : Option (Int × Hp) :=
  ck (-9223372036854775808 ≤ x4 * x2 ∧ x4 * x2 < 9223372036854775808) <|
  lt (x4 * x2) fun z1 =>
  rec 13 [z1] h
noncomputable def b_X12_works_3 (rec : Rk) (y0 : Int) (h : Hp) : Option (Int × Hp) :=
  bd (f_X12_is y0 h) fun v1 h2 =>
  rec 13 [v1] h2
noncomputable def b_X12_works_4 (rec : Rk) (y0 : Int) (h : Hp) : Option (Int × Hp) :=
  bd (f_X12_is y0 h) fun v1 h2 =>
  rec 13 [v1] h2
noncomputable def b_X12_works_5 (rec : Rk) (y0 : Int) (h : Hp) : Option (Int × Hp) :=
  bd (f_X12_is y0 h) fun v1 h2 =>
  rec 13 [v1] h2
noncomputable def b_X12_works_6 (rec : Rk) (y0 : Int) (h : Hp) : Option (Int × Hp) :=
  bd (f_X12_is y0 h) fun v1 h2 =>
  rec 13 [v1] h2
noncomputable def b_X12_works_7 (rec : Rk) (y0 : Int) (h : Hp) : Option (Int × Hp) :=
  bd (f_X12_is y0 h) fun v1 h2 =>
  rec 13 [v1] h2
noncomputable def b_X12_works_8 (rec : Rk) (y0 : Int) (h : Hp) : Option (Int × Hp) :=
  bd (f_X12_is y0 h) fun v1 h2 =>
  rec 13 [v1] h2
noncomputable def b_X12_works_9 (rec : Rk) (h : Hp) : Option (Int × Hp) :=
  rec 10 [0] h
noncomputable def b_X12_works_10 (rec : Rk) (y0 : Int) (h : Hp) : Option (Int × Hp) :=
  bd (f_X12_is y0 h) fun v1 h2 =>
  rec 13 [v1] h2
noncomputable def b_X12_works_11 (rec : Rk) (h : Hp) : Option (Int × Hp) :=
  rec 12 [1] h
noncomputable def b_X12_works_12 (rec : Rk) (y0 : Int) (h : Hp) : Option (Int × Hp) :=
  bd (f_X12_is y0 h) fun v1 h2 =>
  rec 13 [v1] h2
noncomputable def b_X12_works_13 (rec : Rk) (x6 : Int) (h : Hp) : Option (Int × Hp) :=
  ck (-2147483648 ≤ (gI h 12 0 60) - 1 ∧ (gI h 12 0 60) - 1 < 2147483648) <|
  ck (0 ≤ ((gI h 12 0 60) - 1) ∧ ((gI h 12 0 60) - 1) < 64) <|
  lt (sI h 99 0 ((gI h 12 0 60) - 1) x6) fun h1 =>
  if 0 < (lc x6 1000000000000) then (
    some (0, h1)
  ) else (
    if (lc x6 (-1000000000000)) < 0 then (
      some (0, h1)
    ) else (
      some (1, h1)
    )
  )
noncomputable def g_X12_works (n : Nat) : Rk := Nat.rec (motive := fun _ => Rk) (fun _ _ _ => none) (fun _ rec k l h => if k = 0 then b_X12_works_0 rec (l.getD 0 0) h else if k = 1 then b_X12_works_1 rec (l.getD 0 0) (l.getD 1 0) h else if k = 2 then b_X12_works_2 rec (l.getD 0 0) (l.getD 1 0) h else if k = 3 then b_X12_works_3 rec (l.getD 0 0) h else if k = 4 then b_X12_works_4 rec (l.getD 0 0) h else if k = 5 then b_X12_works_5 rec (l.getD 0 0) h else if k = 6 then b_X12_works_6 rec (l.getD 0 0) h else if k = 7 then b_X12_works_7 rec (l.getD 0 0) h else if k = 8 then b_X12_works_8 rec (l.getD 0 0) h else if k = 9 then b_X12_works_9 rec  h else if k = 10 then b_X12_works_10 rec (l.getD 0 0) h else if k = 11 then b_X12_works_11 rec  h else if k = 12 then b_X12_works_12 rec (l.getD 0 0) h else if k = 13 then b_X12_works_13 rec (l.getD 0 0) h else none) n
noncomputable def f_X12_works (x1 : Int) (h : Hp) : Option (Int × Hp) := g_X12_works FU 0 [x1] h
set_option maxHeartbeats 4000000 in
set_option maxRecDepth 100000 in
theorem t_X12_works_0 (E : xE) (d : Nat) (rec : Rk) (r : Int × Hp) (hr_40 : ∀ (y0 y1 : Int) (h : Hp), Lay h → rec 1 [y0, y1] h = some r → X E mX12_works (d + 2) (0, 0) (0, 0) 40 [none, none, none, none, none, none, none, none] [xi y0, xi y1, xr 99 0] h (PoI r)) (hr_212 : ∀ (x2 x4 : Int) (h : Hp), Lay h → rec 2 [x2, x4] h = some r → X E mX12_works (d + 2) (0, 0) (0, 0) 212 [some (xr 12 0), none, some (xl x2), none, some (xl x4), none, none, none] [] h (PoI r)) (hr_250 : ∀ (y0 : Int) (h : Hp), Lay h → rec 3 [y0] h = some r → X E mX12_works (d + 2) (0, 0) (0, 0) 250 [some (xr 12 0), none, none, none, none, none, none, none] [xi y0] h (PoI r)) (hr_270 : ∀ (y0 : Int) (h : Hp), Lay h → rec 4 [y0] h = some r → X E mX12_works (d + 2) (0, 0) (0, 0) 270 [some (xr 12 0), none, none, none, none, none, none, none] [xi y0] h (PoI r)) (hr_290 : ∀ (y0 : Int) (h : Hp), Lay h → rec 5 [y0] h = some r → X E mX12_works (d + 2) (0, 0) (0, 0) 290 [some (xr 12 0), none, none, none, none, none, none, none] [xi y0] h (PoI r)) (hr_310 : ∀ (y0 : Int) (h : Hp), Lay h → rec 6 [y0] h = some r → X E mX12_works (d + 2) (0, 0) (0, 0) 310 [some (xr 12 0), none, none, none, none, none, none, none] [xi y0] h (PoI r)) (hr_330 : ∀ (y0 : Int) (h : Hp), Lay h → rec 7 [y0] h = some r → X E mX12_works (d + 2) (0, 0) (0, 0) 330 [some (xr 12 0), none, none, none, none, none, none, none] [xi y0] h (PoI r)) (hr_350 : ∀ (y0 : Int) (h : Hp), Lay h → rec 8 [y0] h = some r → X E mX12_works (d + 2) (0, 0) (0, 0) 350 [some (xr 12 0), none, none, none, none, none, none, none] [xi y0] h (PoI r)) (hr_375 : ∀ (h : Hp), Lay h → rec 9 [] h = some r → X E mX12_works (d + 2) (0, 0) (0, 0) 375 [some (xr 12 0), none, none, none, none, none, none, none] [] h (PoI r)) (hr_376 : ∀ (y0 : Int) (h : Hp), Lay h → rec 10 [y0] h = some r → X E mX12_works (d + 2) (0, 0) (0, 0) 376 [some (xr 12 0), none, none, none, none, none, none, none] [xi y0] h (PoI r)) (hr_397 : ∀ (h : Hp), Lay h → rec 11 [] h = some r → X E mX12_works (d + 2) (0, 0) (0, 0) 397 [some (xr 12 0), none, none, none, none, none, none, none] [] h (PoI r)) (hr_402 : ∀ (y0 : Int) (h : Hp), Lay h → rec 12 [y0] h = some r → X E mX12_works (d + 2) (0, 0) (0, 0) 402 [some (xr 12 0), none, none, none, none, none, none, none] [xi y0] h (PoI r)) (hr_407 : ∀ (x6 : Int) (h : Hp), Lay h → rec 13 [x6] h = some r → X E mX12_works (d + 2) (0, 0) (0, 0) 407 [some (xr 12 0), none, none, none, none, none, some (xl x6), none] [] h (PoI r)) (x1 : Int) (h : Hp) (hL : Lay h) (hF : b_X12_works_0 rec x1 h = some r) : X E mX12_works (d + 2) (0, 0) (0, 0) 0 [some (xr 12 0), some (xi x1), none, none, none, none, none, none] [] h (PoI r) := by
  unfold b_X12_works_0 at hF
  refine x_aload_n (i := 0) (b := 1) dX12_works_0 rfl rfl rfl ?_
  refine x_getL (j := 0) (t := (99, 0, true)) (b := 4) fk_X12_139 dX12_works_1 rfl hL rfl rfl rfl ?_
  refine x_aload_n (i := 0) (b := 5) dX12_works_4 rfl rfl rfl ?_
  refine x_getI (v := gI h 12 0 60) (b := 8) fk_X12_389 dX12_works_5 (by decide) rfl rfl ?_
  refine x_iconst (n := 1) (b := 9) dX12_works_8 (by decide) rfl ?_
  obtain ⟨hs, hF⟩ := ck_e hF
  refine x_isub (b := 10) dX12_works_9 hs rfl ?_
  obtain ⟨hs, hF⟩ := ck_e hF
  refine x_lald (v := gI h 99 0 ((gI h 12 0 60) - 1)) (b := 11) ak_99 dX12_works_10 hs rfl rfl ?_
  obtain ⟨z1, e_z1, hF⟩ := lt_e hF
  refine x_eql (y := z1) e_z1 ?_
  refine x_lstore_n (i := 2) (b := 12) (ls2 := [some (xr 12 0), some (xi x1), some (xl z1), none, none, none, none, none]) dX12_works_11 rfl (Nat.le_of_ble_eq_true rfl) rfl rfl ?_
  refine x_iload_n (i := 1) (b := 13) dX12_works_12 rfl rfl rfl ?_
  refine x_sipush (n := 260) (b := 16) dX12_works_13 (by decide) rfl ?_
  refine x_icmp_ne (tgt := 46) (b := 19) dX12_works_16 (by decide) rfl (fun hc => ?_) (fun hc => ?_)
  · replace hF := br_F hc hF
    refine x_aload_n (i := 0) (b := 47) dX12_works_46 rfl rfl rfl ?_
    refine x_getL (j := 0) (t := (99, 0, true)) (b := 50) fk_X12_139 dX12_works_47 rfl hL rfl rfl rfl ?_
    refine x_aload_n (i := 0) (b := 51) dX12_works_50 rfl rfl rfl ?_
    refine x_getI (v := gI h 12 0 60) (b := 54) fk_X12_389 dX12_works_51 (by decide) rfl rfl ?_
    refine x_iconst (n := 2) (b := 55) dX12_works_54 (by decide) rfl ?_
    obtain ⟨hs, hF⟩ := ck_e hF
    refine x_isub (b := 56) dX12_works_55 hs rfl ?_
    obtain ⟨hs, hF⟩ := ck_e hF
    refine x_lald (v := gI h 99 0 ((gI h 12 0 60) - 2)) (b := 57) ak_99 dX12_works_56 hs rfl rfl ?_
    obtain ⟨z2, e_z2, hF⟩ := lt_e hF
    refine x_eql (y := z2) e_z2 ?_
    refine x_lstore (i := 4) (b := 59) (ls2 := [some (xr 12 0), some (xi x1), some (xl z1), none, some (xl z2), none, none, none]) dX12_works_57 (Nat.le_of_ble_eq_true rfl) rfl rfl ?_
    refine x_aload_n (i := 0) (b := 60) dX12_works_59 rfl rfl rfl ?_
    refine x_dup (b := 61) dX12_works_60 rfl rfl ?_
    refine x_getI (v := gI h 12 0 60) (b := 64) fk_X12_389 dX12_works_61 (by decide) rfl rfl ?_
    refine x_iconst (n := 1) (b := 65) dX12_works_64 (by decide) rfl ?_
    obtain ⟨hs, hF⟩ := ck_e hF
    refine x_isub (b := 66) dX12_works_65 hs rfl ?_
    refine x_putI (b := 69) fk_X12_389 dX12_works_66 rfl rfl 60 rfl ?_
    obtain ⟨h3, e_h3, hF⟩ := lt_e hF
    refine x_hp (h2 := h3) e_h3 ?_
    replace hL : Lay h3 := by rw [← e_h3]; exact hL
    refine x_iload_n (i := 1) (b := 70) dX12_works_69 rfl rfl rfl ?_
    by_cases hw70_42 : x1 = 42
    · replace hF := br_T hw70_42 hF
      refine x_lookup (off := 116) (tgt := 186) dX12_works_70 (by decide) (by rw [hw70_42]; decide) (by decide) ?_
      refine x_lload (i := 4) (b := 188) dX12_works_186 rfl rfl ?_
      refine x_lconst (z := 0) (b := 189) dX12_works_188 rfl (by decide) rfl ?_
      refine x_lcmp (b := 190) dX12_works_189 rfl ?_
      refine x_if_eq (tgt := 212) (b := 193) dX12_works_190 (by decide) rfl (fun hc => ?_) (fun hc => ?_)
      · replace hF := br_T hc hF
        exact x_dp (ls2 := [some (xr 12 0), none, some (xl z1), none, some (xl z2), none, none, none]) ⟨rfl, rfl, rfl, trivial⟩ (hr_212 z1 z2 h3 hL hF)
      · replace hF := br_F hc hF
        refine x_lload_n (i := 2) (b := 194) dX12_works_193 rfl rfl rfl ?_
        obtain ⟨hs, hF⟩ := ck_e hF
        refine x_labs (b := 197) dX12_works_194 mw_X12_396 (Nat.le_of_ble_eq_true rfl) ⟨Nat.le_refl _, Nat.le_refl _⟩ hs rfl ?_
        refine x_ldc2 (z := 1000000000000) (b := 200) dX12_works_197 kw_1986 (by decide) rfl ?_
        refine x_lload (i := 4) (b := 202) dX12_works_200 rfl rfl ?_
        obtain ⟨hs, hF⟩ := ck_e hF
        refine x_labs (b := 205) dX12_works_202 mw_X12_396 (Nat.le_of_ble_eq_true rfl) ⟨Nat.le_refl _, Nat.le_refl _⟩ hs rfl ?_
        obtain ⟨hs, hF⟩ := ck_e hF
        refine x_ldiv (b := 206) dX12_works_205 hs.1 hs.2 rfl ?_
        refine x_lcmp (b := 207) dX12_works_206 rfl ?_
        refine x_if_le (tgt := 212) (b := 210) dX12_works_207 (by decide) rfl (fun hc => ?_) (fun hc => ?_)
        · replace hF := br_T hc hF
          exact x_dp (ls2 := [some (xr 12 0), none, some (xl z1), none, some (xl z2), none, none, none]) ⟨rfl, rfl, rfl, trivial⟩ (hr_212 z1 z2 h3 hL hF)
        · replace hF := br_F hc hF
          refine x_iconst (n := 0) (b := 211) dX12_works_210 (by decide) rfl ?_
          refine x_zreturn dX12_works_211 rfl ⟨Nat.le_refl _, Nat.le_refl _⟩ (by decide) ?_
          cases hF
          exact ⟨rfl, rfl, hL⟩
    replace hF := br_F hw70_42 hF
    by_cases hw70_43 : x1 = 43
    · replace hF := br_T hw70_43 hF
      refine x_lookup (off := 98) (tgt := 168) dX12_works_70 (by decide) (by rw [hw70_43]; decide) (by decide) ?_
      refine x_lload (i := 4) (b := 170) dX12_works_168 rfl rfl ?_
      refine x_lload_n (i := 2) (b := 171) dX12_works_170 rfl rfl rfl ?_
      obtain ⟨hs, hF⟩ := ck_e hF
      refine x_ladd (b := 172) dX12_works_171 hs rfl ?_
      obtain ⟨z4, e_z4, hF⟩ := lt_e hF
      refine x_eql (y := z4) e_z4 ?_
      refine x_lstore (i := 6) (b := 174) (ls2 := [some (xr 12 0), some (xi x1), some (xl z1), none, some (xl z2), none, some (xl z4), none]) dX12_works_172 (Nat.le_of_ble_eq_true rfl) rfl rfl ?_
      refine x_goto (tgt := 407) dX12_works_174 (by decide) ?_
      exact x_dp (ls2 := [some (xr 12 0), none, none, none, none, none, some (xl z4), none]) ⟨rfl, rfl, trivial⟩ (hr_407 z4 h3 hL hF)
    replace hF := br_F hw70_43 hF
    by_cases hw70_45 : x1 = 45
    · replace hF := br_T hw70_45 hF
      refine x_lookup (off := 107) (tgt := 177) dX12_works_70 (by decide) (by rw [hw70_45]; decide) (by decide) ?_
      refine x_lload (i := 4) (b := 179) dX12_works_177 rfl rfl ?_
      refine x_lload_n (i := 2) (b := 180) dX12_works_179 rfl rfl rfl ?_
      obtain ⟨hs, hF⟩ := ck_e hF
      refine x_lsub (b := 181) dX12_works_180 hs rfl ?_
      obtain ⟨z5, e_z5, hF⟩ := lt_e hF
      refine x_eql (y := z5) e_z5 ?_
      refine x_lstore (i := 6) (b := 183) (ls2 := [some (xr 12 0), some (xi x1), some (xl z1), none, some (xl z2), none, some (xl z5), none]) dX12_works_181 (Nat.le_of_ble_eq_true rfl) rfl rfl ?_
      refine x_goto (tgt := 407) dX12_works_183 (by decide) ?_
      exact x_dp (ls2 := [some (xr 12 0), none, none, none, none, none, some (xl z5), none]) ⟨rfl, rfl, trivial⟩ (hr_407 z5 h3 hL hF)
    replace hF := br_F hw70_45 hF
    by_cases hw70_47 : x1 = 47
    · replace hF := br_T hw70_47 hF
      refine x_lookup (off := 151) (tgt := 221) dX12_works_70 (by decide) (by rw [hw70_47]; decide) (by decide) ?_
      refine x_lload_n (i := 2) (b := 222) dX12_works_221 rfl rfl rfl ?_
      refine x_lconst (z := 0) (b := 223) dX12_works_222 rfl (by decide) rfl ?_
      refine x_lcmp (b := 224) dX12_works_223 rfl ?_
      refine x_if_ne (tgt := 229) (b := 227) dX12_works_224 (by decide) rfl (fun hc => ?_) (fun hc => ?_)
      · replace hF := br_F hc hF
        refine x_lload (i := 4) (b := 231) dX12_works_229 rfl rfl ?_
        refine x_lload_n (i := 2) (b := 232) dX12_works_231 rfl rfl rfl ?_
        obtain ⟨hs, hF⟩ := ck_e hF
        refine x_ldiv (b := 233) dX12_works_232 hs.1 hs.2 rfl ?_
        obtain ⟨z6, e_z6, hF⟩ := lt_e hF
        refine x_eql (y := z6) e_z6 ?_
        refine x_lstore (i := 6) (b := 235) (ls2 := [some (xr 12 0), some (xi x1), some (xl z1), none, some (xl z2), none, some (xl z6), none]) dX12_works_233 (Nat.le_of_ble_eq_true rfl) rfl rfl ?_
        refine x_goto (tgt := 407) dX12_works_235 (by decide) ?_
        exact x_dp (ls2 := [some (xr 12 0), none, none, none, none, none, some (xl z6), none]) ⟨rfl, rfl, trivial⟩ (hr_407 z6 h3 hL hF)
      · replace hF := br_T hc hF
        refine x_iconst (n := 0) (b := 228) dX12_works_227 (by decide) rfl ?_
        refine x_zreturn dX12_works_228 rfl ⟨Nat.le_refl _, Nat.le_refl _⟩ (by decide) ?_
        cases hF
        exact ⟨rfl, rfl, hL⟩
    replace hF := br_F hw70_47 hF
    by_cases hw70_60 : x1 = 60
    · replace hF := br_T hw70_60 hF
      refine x_lookup (off := 168) (tgt := 238) dX12_works_70 (by decide) (by rw [hw70_60]; decide) (by decide) ?_
      refine x_lload (i := 4) (b := 240) dX12_works_238 rfl rfl ?_
      refine x_lload_n (i := 2) (b := 241) dX12_works_240 rfl rfl rfl ?_
      refine x_lcmp (b := 242) dX12_works_241 rfl ?_
      refine x_if_ge (tgt := 249) (b := 245) dX12_works_242 (by decide) rfl (fun hc => ?_) (fun hc => ?_)
      · replace hF := br_T hc hF
        refine x_iconst (n := 0) (b := 250) dX12_works_249 (by decide) rfl ?_
        exact x_dp (ls2 := [some (xr 12 0), none, none, none, none, none, none, none]) ⟨rfl, trivial⟩ (hr_250 0 h3 hL hF)
      · replace hF := br_F hc hF
        refine x_iconst (n := 1) (b := 246) dX12_works_245 (by decide) rfl ?_
        refine x_goto (tgt := 250) dX12_works_246 (by decide) ?_
        exact x_dp (ls2 := [some (xr 12 0), none, none, none, none, none, none, none]) ⟨rfl, trivial⟩ (hr_250 1 h3 hL hF)
    replace hF := br_F hw70_60 hF
    by_cases hw70_61 : x1 = 61
    · replace hF := br_T hw70_61 hF
      refine x_lookup (off := 208) (tgt := 278) dX12_works_70 (by decide) (by rw [hw70_61]; decide) (by decide) ?_
      refine x_lload (i := 4) (b := 280) dX12_works_278 rfl rfl ?_
      refine x_lload_n (i := 2) (b := 281) dX12_works_280 rfl rfl rfl ?_
      refine x_lcmp (b := 282) dX12_works_281 rfl ?_
      refine x_if_ne (tgt := 289) (b := 285) dX12_works_282 (by decide) rfl (fun hc => ?_) (fun hc => ?_)
      · replace hF := br_F hc hF
        refine x_iconst (n := 0) (b := 290) dX12_works_289 (by decide) rfl ?_
        exact x_dp (ls2 := [some (xr 12 0), none, none, none, none, none, none, none]) ⟨rfl, trivial⟩ (hr_290 0 h3 hL hF)
      · replace hF := br_T hc hF
        refine x_iconst (n := 1) (b := 286) dX12_works_285 (by decide) rfl ?_
        refine x_goto (tgt := 290) dX12_works_286 (by decide) ?_
        exact x_dp (ls2 := [some (xr 12 0), none, none, none, none, none, none, none]) ⟨rfl, trivial⟩ (hr_290 1 h3 hL hF)
    replace hF := br_F hw70_61 hF
    by_cases hw70_62 : x1 = 62
    · replace hF := br_T hw70_62 hF
      refine x_lookup (off := 188) (tgt := 258) dX12_works_70 (by decide) (by rw [hw70_62]; decide) (by decide) ?_
      refine x_lload (i := 4) (b := 260) dX12_works_258 rfl rfl ?_
      refine x_lload_n (i := 2) (b := 261) dX12_works_260 rfl rfl rfl ?_
      refine x_lcmp (b := 262) dX12_works_261 rfl ?_
      refine x_if_le (tgt := 269) (b := 265) dX12_works_262 (by decide) rfl (fun hc => ?_) (fun hc => ?_)
      · replace hF := br_T hc hF
        refine x_iconst (n := 0) (b := 270) dX12_works_269 (by decide) rfl ?_
        exact x_dp (ls2 := [some (xr 12 0), none, none, none, none, none, none, none]) ⟨rfl, trivial⟩ (hr_270 0 h3 hL hF)
      · replace hF := br_F hc hF
        refine x_iconst (n := 1) (b := 266) dX12_works_265 (by decide) rfl ?_
        refine x_goto (tgt := 270) dX12_works_266 (by decide) ?_
        exact x_dp (ls2 := [some (xr 12 0), none, none, none, none, none, none, none]) ⟨rfl, trivial⟩ (hr_270 1 h3 hL hF)
    replace hF := br_F hw70_62 hF
    by_cases hw70_256 : x1 = 256
    · replace hF := br_T hw70_256 hF
      refine x_lookup (off := 228) (tgt := 298) dX12_works_70 (by decide) (by rw [hw70_256]; decide) (by decide) ?_
      refine x_lload (i := 4) (b := 300) dX12_works_298 rfl rfl ?_
      refine x_lload_n (i := 2) (b := 301) dX12_works_300 rfl rfl rfl ?_
      refine x_lcmp (b := 302) dX12_works_301 rfl ?_
      refine x_if_gt (tgt := 309) (b := 305) dX12_works_302 (by decide) rfl (fun hc => ?_) (fun hc => ?_)
      · replace hF := br_T hc hF
        refine x_iconst (n := 0) (b := 310) dX12_works_309 (by decide) rfl ?_
        exact x_dp (ls2 := [some (xr 12 0), none, none, none, none, none, none, none]) ⟨rfl, trivial⟩ (hr_310 0 h3 hL hF)
      · replace hF := br_F hc hF
        refine x_iconst (n := 1) (b := 306) dX12_works_305 (by decide) rfl ?_
        refine x_goto (tgt := 310) dX12_works_306 (by decide) ?_
        exact x_dp (ls2 := [some (xr 12 0), none, none, none, none, none, none, none]) ⟨rfl, trivial⟩ (hr_310 1 h3 hL hF)
    replace hF := br_F hw70_256 hF
    by_cases hw70_257 : x1 = 257
    · replace hF := br_T hw70_257 hF
      refine x_lookup (off := 268) (tgt := 338) dX12_works_70 (by decide) (by rw [hw70_257]; decide) (by decide) ?_
      refine x_lload (i := 4) (b := 340) dX12_works_338 rfl rfl ?_
      refine x_lload_n (i := 2) (b := 341) dX12_works_340 rfl rfl rfl ?_
      refine x_lcmp (b := 342) dX12_works_341 rfl ?_
      refine x_if_eq (tgt := 349) (b := 345) dX12_works_342 (by decide) rfl (fun hc => ?_) (fun hc => ?_)
      · replace hF := br_T hc hF
        refine x_iconst (n := 0) (b := 350) dX12_works_349 (by decide) rfl ?_
        exact x_dp (ls2 := [some (xr 12 0), none, none, none, none, none, none, none]) ⟨rfl, trivial⟩ (hr_350 0 h3 hL hF)
      · replace hF := br_F hc hF
        refine x_iconst (n := 1) (b := 346) dX12_works_345 (by decide) rfl ?_
        refine x_goto (tgt := 350) dX12_works_346 (by decide) ?_
        exact x_dp (ls2 := [some (xr 12 0), none, none, none, none, none, none, none]) ⟨rfl, trivial⟩ (hr_350 1 h3 hL hF)
    replace hF := br_F hw70_257 hF
    by_cases hw70_258 : x1 = 258
    · replace hF := br_T hw70_258 hF
      refine x_lookup (off := 248) (tgt := 318) dX12_works_70 (by decide) (by rw [hw70_258]; decide) (by decide) ?_
      refine x_lload (i := 4) (b := 320) dX12_works_318 rfl rfl ?_
      refine x_lload_n (i := 2) (b := 321) dX12_works_320 rfl rfl rfl ?_
      refine x_lcmp (b := 322) dX12_works_321 rfl ?_
      refine x_if_lt (tgt := 329) (b := 325) dX12_works_322 (by decide) rfl (fun hc => ?_) (fun hc => ?_)
      · replace hF := br_T hc hF
        refine x_iconst (n := 0) (b := 330) dX12_works_329 (by decide) rfl ?_
        exact x_dp (ls2 := [some (xr 12 0), none, none, none, none, none, none, none]) ⟨rfl, trivial⟩ (hr_330 0 h3 hL hF)
      · replace hF := br_F hc hF
        refine x_iconst (n := 1) (b := 326) dX12_works_325 (by decide) rfl ?_
        refine x_goto (tgt := 330) dX12_works_326 (by decide) ?_
        exact x_dp (ls2 := [some (xr 12 0), none, none, none, none, none, none, none]) ⟨rfl, trivial⟩ (hr_330 1 h3 hL hF)
    replace hF := br_F hw70_258 hF
    by_cases hw70_261 : x1 = 261
    · replace hF := br_T hw70_261 hF
      refine x_lookup (off := 288) (tgt := 358) dX12_works_70 (by decide) (by rw [hw70_261]; decide) (by decide) ?_
      refine x_lload (i := 4) (b := 360) dX12_works_358 rfl rfl ?_
      refine x_lconst (z := 0) (b := 361) dX12_works_360 rfl (by decide) rfl ?_
      refine x_lcmp (b := 362) dX12_works_361 rfl ?_
      refine x_if_eq (tgt := 375) (b := 365) dX12_works_362 (by decide) rfl (fun hc => ?_) (fun hc => ?_)
      · replace hF := br_T hc hF
        exact x_dp (ls2 := [some (xr 12 0), none, none, none, none, none, none, none]) ⟨rfl, trivial⟩ (hr_375  h3 hL hF)
      · replace hF := br_F hc hF
        refine x_lload_n (i := 2) (b := 366) dX12_works_365 rfl rfl rfl ?_
        refine x_lconst (z := 0) (b := 367) dX12_works_366 rfl (by decide) rfl ?_
        refine x_lcmp (b := 368) dX12_works_367 rfl ?_
        refine x_if_eq (tgt := 375) (b := 371) dX12_works_368 (by decide) rfl (fun hc => ?_) (fun hc => ?_)
        · replace hF := br_T hc hF
          exact x_dp (ls2 := [some (xr 12 0), none, none, none, none, none, none, none]) ⟨rfl, trivial⟩ (hr_375  h3 hL hF)
        · replace hF := br_F hc hF
          refine x_iconst (n := 1) (b := 372) dX12_works_371 (by decide) rfl ?_
          refine x_goto (tgt := 376) dX12_works_372 (by decide) ?_
          exact x_dp (ls2 := [some (xr 12 0), none, none, none, none, none, none, none]) ⟨rfl, trivial⟩ (hr_376 1 h3 hL hF)
    replace hF := br_F hw70_261 hF
    refine x_lookup (off := 314) (tgt := 384) dX12_works_70 (by decide) (by simp only [Op.lookupswitch.offset]; rw [if_neg (fun q => hw70_42 q.symm), if_neg (fun q => hw70_43 q.symm), if_neg (fun q => hw70_45 q.symm), if_neg (fun q => hw70_47 q.symm), if_neg (fun q => hw70_60 q.symm), if_neg (fun q => hw70_61 q.symm), if_neg (fun q => hw70_62 q.symm), if_neg (fun q => hw70_256 q.symm), if_neg (fun q => hw70_257 q.symm), if_neg (fun q => hw70_258 q.symm), if_neg (fun q => hw70_261 q.symm)]) (by decide) ?_
    refine x_lload (i := 4) (b := 386) dX12_works_384 rfl rfl ?_
    refine x_lconst (z := 0) (b := 387) dX12_works_386 rfl (by decide) rfl ?_
    refine x_lcmp (b := 388) dX12_works_387 rfl ?_
    refine x_if_ne (tgt := 397) (b := 391) dX12_works_388 (by decide) rfl (fun hc => ?_) (fun hc => ?_)
    · replace hF := br_F hc hF
      exact x_dp (ls2 := [some (xr 12 0), none, none, none, none, none, none, none]) ⟨rfl, trivial⟩ (hr_397  h3 hL hF)
    · replace hF := br_T hc hF
      refine x_lload_n (i := 2) (b := 392) dX12_works_391 rfl rfl rfl ?_
      refine x_lconst (z := 0) (b := 393) dX12_works_392 rfl (by decide) rfl ?_
      refine x_lcmp (b := 394) dX12_works_393 rfl ?_
      refine x_if_eq (tgt := 401) (b := 397) dX12_works_394 (by decide) rfl (fun hc => ?_) (fun hc => ?_)
      · replace hF := br_T hc hF
        refine x_iconst (n := 0) (b := 402) dX12_works_401 (by decide) rfl ?_
        exact x_dp (ls2 := [some (xr 12 0), none, none, none, none, none, none, none]) ⟨rfl, trivial⟩ (hr_402 0 h3 hL hF)
      · replace hF := br_F hc hF
        exact x_dp (ls2 := [some (xr 12 0), none, none, none, none, none, none, none]) ⟨rfl, trivial⟩ (hr_397  h3 hL hF)
  · replace hF := br_T hc hF
    refine x_aload_n (i := 0) (b := 20) dX12_works_19 rfl rfl rfl ?_
    refine x_getL (j := 0) (t := (99, 0, true)) (b := 23) fk_X12_139 dX12_works_20 rfl hL rfl rfl rfl ?_
    refine x_aload_n (i := 0) (b := 24) dX12_works_23 rfl rfl rfl ?_
    refine x_getI (v := gI h 12 0 60) (b := 27) fk_X12_389 dX12_works_24 (by decide) rfl rfl ?_
    refine x_iconst (n := 1) (b := 28) dX12_works_27 (by decide) rfl ?_
    obtain ⟨hs, hF⟩ := ck_e hF
    refine x_isub (b := 29) dX12_works_28 hs rfl ?_
    refine x_lload_n (i := 2) (b := 30) dX12_works_29 rfl rfl rfl ?_
    refine x_lconst (z := 0) (b := 31) dX12_works_30 rfl (by decide) rfl ?_
    refine x_lcmp (b := 32) dX12_works_31 rfl ?_
    refine x_if_ne (tgt := 39) (b := 35) dX12_works_32 (by decide) rfl (fun hc => ?_) (fun hc => ?_)
    · replace hF := br_F hc hF
      refine x_iconst (n := 0) (b := 40) dX12_works_39 (by decide) rfl ?_
      exact x_dp (ls2 := [none, none, none, none, none, none, none, none]) trivial (hr_40 0 ((gI h 12 0 60) - 1) h hL hF)
    · replace hF := br_T hc hF
      refine x_iconst (n := 1) (b := 36) dX12_works_35 (by decide) rfl ?_
      refine x_goto (tgt := 40) dX12_works_36 (by decide) ?_
      exact x_dp (ls2 := [none, none, none, none, none, none, none, none]) trivial (hr_40 1 ((gI h 12 0 60) - 1) h hL hF)
set_option maxHeartbeats 4000000 in
set_option maxRecDepth 100000 in
theorem t_X12_works_1 (E : xE) (d : Nat) (rec : Rk) (r : Int × Hp) (y0 y1 : Int) (h : Hp) (hL : Lay h) (hF : b_X12_works_1 rec y0 y1 h = some r) : X E mX12_works (d + 2) (0, 0) (0, 0) 40 [none, none, none, none, none, none, none, none] [xi y0, xi y1, xr 99 0] h (PoI r) := by
  unfold b_X12_works_1 at hF
  obtain ⟨v1, h2, hq, hF⟩ := bd_e hF
  refine x_callS (as := [xi y0]) (rest := [xi y1, xr 99 0]) (b := 43) (c_X12_is d y0 h _ hL hq) dX12_works_40 cw_X12_392 rfl rfl (Nat.le_of_ble_eq_true rfl) ⟨Nat.le_refl _, Nat.le_refl _⟩ rfl (fun rv hh hp _ => ?_)
  obtain ⟨rfl, rfl, hL⟩ := hp
  obtain ⟨hs, hF⟩ := ck_e hF
  have hs1 := hs
  refine x_last (b := 44) ak_99 dX12_works_43 hs1 rfl ?_
  obtain ⟨h3, e_h3, hF⟩ := lt_e hF
  refine x_hp (h2 := h3) e_h3 ?_
  replace hL : Lay h3 := by rw [← e_h3]; exact hL
  refine x_iconst (n := 1) (b := 45) dX12_works_44 (by decide) rfl ?_
  refine x_zreturn dX12_works_45 rfl ⟨Nat.le_refl _, Nat.le_refl _⟩ (by decide) ?_
  cases hF
  exact ⟨rfl, rfl, hL⟩
set_option maxHeartbeats 4000000 in
set_option maxRecDepth 100000 in
theorem t_X12_works_2 (E : xE) (d : Nat) (rec : Rk) (r : Int × Hp) (hr_407 : ∀ (x6 : Int) (h : Hp), Lay h → rec 13 [x6] h = some r → X E mX12_works (d + 2) (0, 0) (0, 0) 407 [some (xr 12 0), none, none, none, none, none, some (xl x6), none] [] h (PoI r)) (x2 x4 : Int) (h : Hp) (hL : Lay h) (hF : b_X12_works_2 rec x2 x4 h = some r) : X E mX12_works (d + 2) (0, 0) (0, 0) 212 [some (xr 12 0), none, some (xl x2), none, some (xl x4), none, none, none] [] h (PoI r) := by
  unfold b_X12_works_2 at hF
  refine x_lload (i := 4) (b := 214) dX12_works_212 rfl rfl ?_
  refine x_lload_n (i := 2) (b := 215) dX12_works_214 rfl rfl rfl ?_
  obtain ⟨hs, hF⟩ := ck_e hF
  refine x_lmul (b := 216) dX12_works_215 hs rfl ?_
  obtain ⟨z1, e_z1, hF⟩ := lt_e hF
  refine x_eql (y := z1) e_z1 ?_
  refine x_lstore (i := 6) (b := 218) (ls2 := [some (xr 12 0), none, some (xl x2), none, some (xl x4), none, some (xl z1), none]) dX12_works_216 (Nat.le_of_ble_eq_true rfl) rfl rfl ?_
  refine x_goto (tgt := 407) dX12_works_218 (by decide) ?_
  exact x_dp (ls2 := [some (xr 12 0), none, none, none, none, none, some (xl z1), none]) ⟨rfl, rfl, trivial⟩ (hr_407 z1 h hL hF)
set_option maxHeartbeats 4000000 in
set_option maxRecDepth 100000 in
theorem t_X12_works_3 (E : xE) (d : Nat) (rec : Rk) (r : Int × Hp) (hr_407 : ∀ (x6 : Int) (h : Hp), Lay h → rec 13 [x6] h = some r → X E mX12_works (d + 2) (0, 0) (0, 0) 407 [some (xr 12 0), none, none, none, none, none, some (xl x6), none] [] h (PoI r)) (y0 : Int) (h : Hp) (hL : Lay h) (hF : b_X12_works_3 rec y0 h = some r) : X E mX12_works (d + 2) (0, 0) (0, 0) 250 [some (xr 12 0), none, none, none, none, none, none, none] [xi y0] h (PoI r) := by
  unfold b_X12_works_3 at hF
  obtain ⟨v1, h2, hq, hF⟩ := bd_e hF
  refine x_callS (as := [xi y0]) (rest := []) (b := 253) (c_X12_is d y0 h _ hL hq) dX12_works_250 cw_X12_392 rfl rfl (Nat.le_of_ble_eq_true rfl) ⟨Nat.le_refl _, Nat.le_refl _⟩ rfl (fun rv hh hp _ => ?_)
  obtain ⟨rfl, rfl, hL⟩ := hp
  refine x_lstore (i := 6) (b := 255) (ls2 := [some (xr 12 0), none, none, none, none, none, some (xl v1), none]) dX12_works_253 (Nat.le_of_ble_eq_true rfl) rfl rfl ?_
  refine x_goto (tgt := 407) dX12_works_255 (by decide) ?_
  exact x_dp (ls2 := [some (xr 12 0), none, none, none, none, none, some (xl v1), none]) ⟨rfl, rfl, trivial⟩ (hr_407 v1 h2 hL hF)
set_option maxHeartbeats 4000000 in
set_option maxRecDepth 100000 in
theorem t_X12_works_4 (E : xE) (d : Nat) (rec : Rk) (r : Int × Hp) (hr_407 : ∀ (x6 : Int) (h : Hp), Lay h → rec 13 [x6] h = some r → X E mX12_works (d + 2) (0, 0) (0, 0) 407 [some (xr 12 0), none, none, none, none, none, some (xl x6), none] [] h (PoI r)) (y0 : Int) (h : Hp) (hL : Lay h) (hF : b_X12_works_4 rec y0 h = some r) : X E mX12_works (d + 2) (0, 0) (0, 0) 270 [some (xr 12 0), none, none, none, none, none, none, none] [xi y0] h (PoI r) := by
  unfold b_X12_works_4 at hF
  obtain ⟨v1, h2, hq, hF⟩ := bd_e hF
  refine x_callS (as := [xi y0]) (rest := []) (b := 273) (c_X12_is d y0 h _ hL hq) dX12_works_270 cw_X12_392 rfl rfl (Nat.le_of_ble_eq_true rfl) ⟨Nat.le_refl _, Nat.le_refl _⟩ rfl (fun rv hh hp _ => ?_)
  obtain ⟨rfl, rfl, hL⟩ := hp
  refine x_lstore (i := 6) (b := 275) (ls2 := [some (xr 12 0), none, none, none, none, none, some (xl v1), none]) dX12_works_273 (Nat.le_of_ble_eq_true rfl) rfl rfl ?_
  refine x_goto (tgt := 407) dX12_works_275 (by decide) ?_
  exact x_dp (ls2 := [some (xr 12 0), none, none, none, none, none, some (xl v1), none]) ⟨rfl, rfl, trivial⟩ (hr_407 v1 h2 hL hF)
set_option maxHeartbeats 4000000 in
set_option maxRecDepth 100000 in
theorem t_X12_works_5 (E : xE) (d : Nat) (rec : Rk) (r : Int × Hp) (hr_407 : ∀ (x6 : Int) (h : Hp), Lay h → rec 13 [x6] h = some r → X E mX12_works (d + 2) (0, 0) (0, 0) 407 [some (xr 12 0), none, none, none, none, none, some (xl x6), none] [] h (PoI r)) (y0 : Int) (h : Hp) (hL : Lay h) (hF : b_X12_works_5 rec y0 h = some r) : X E mX12_works (d + 2) (0, 0) (0, 0) 290 [some (xr 12 0), none, none, none, none, none, none, none] [xi y0] h (PoI r) := by
  unfold b_X12_works_5 at hF
  obtain ⟨v1, h2, hq, hF⟩ := bd_e hF
  refine x_callS (as := [xi y0]) (rest := []) (b := 293) (c_X12_is d y0 h _ hL hq) dX12_works_290 cw_X12_392 rfl rfl (Nat.le_of_ble_eq_true rfl) ⟨Nat.le_refl _, Nat.le_refl _⟩ rfl (fun rv hh hp _ => ?_)
  obtain ⟨rfl, rfl, hL⟩ := hp
  refine x_lstore (i := 6) (b := 295) (ls2 := [some (xr 12 0), none, none, none, none, none, some (xl v1), none]) dX12_works_293 (Nat.le_of_ble_eq_true rfl) rfl rfl ?_
  refine x_goto (tgt := 407) dX12_works_295 (by decide) ?_
  exact x_dp (ls2 := [some (xr 12 0), none, none, none, none, none, some (xl v1), none]) ⟨rfl, rfl, trivial⟩ (hr_407 v1 h2 hL hF)
set_option maxHeartbeats 4000000 in
set_option maxRecDepth 100000 in
theorem t_X12_works_6 (E : xE) (d : Nat) (rec : Rk) (r : Int × Hp) (hr_407 : ∀ (x6 : Int) (h : Hp), Lay h → rec 13 [x6] h = some r → X E mX12_works (d + 2) (0, 0) (0, 0) 407 [some (xr 12 0), none, none, none, none, none, some (xl x6), none] [] h (PoI r)) (y0 : Int) (h : Hp) (hL : Lay h) (hF : b_X12_works_6 rec y0 h = some r) : X E mX12_works (d + 2) (0, 0) (0, 0) 310 [some (xr 12 0), none, none, none, none, none, none, none] [xi y0] h (PoI r) := by
  unfold b_X12_works_6 at hF
  obtain ⟨v1, h2, hq, hF⟩ := bd_e hF
  refine x_callS (as := [xi y0]) (rest := []) (b := 313) (c_X12_is d y0 h _ hL hq) dX12_works_310 cw_X12_392 rfl rfl (Nat.le_of_ble_eq_true rfl) ⟨Nat.le_refl _, Nat.le_refl _⟩ rfl (fun rv hh hp _ => ?_)
  obtain ⟨rfl, rfl, hL⟩ := hp
  refine x_lstore (i := 6) (b := 315) (ls2 := [some (xr 12 0), none, none, none, none, none, some (xl v1), none]) dX12_works_313 (Nat.le_of_ble_eq_true rfl) rfl rfl ?_
  refine x_goto (tgt := 407) dX12_works_315 (by decide) ?_
  exact x_dp (ls2 := [some (xr 12 0), none, none, none, none, none, some (xl v1), none]) ⟨rfl, rfl, trivial⟩ (hr_407 v1 h2 hL hF)
set_option maxHeartbeats 4000000 in
set_option maxRecDepth 100000 in
theorem t_X12_works_7 (E : xE) (d : Nat) (rec : Rk) (r : Int × Hp) (hr_407 : ∀ (x6 : Int) (h : Hp), Lay h → rec 13 [x6] h = some r → X E mX12_works (d + 2) (0, 0) (0, 0) 407 [some (xr 12 0), none, none, none, none, none, some (xl x6), none] [] h (PoI r)) (y0 : Int) (h : Hp) (hL : Lay h) (hF : b_X12_works_7 rec y0 h = some r) : X E mX12_works (d + 2) (0, 0) (0, 0) 330 [some (xr 12 0), none, none, none, none, none, none, none] [xi y0] h (PoI r) := by
  unfold b_X12_works_7 at hF
  obtain ⟨v1, h2, hq, hF⟩ := bd_e hF
  refine x_callS (as := [xi y0]) (rest := []) (b := 333) (c_X12_is d y0 h _ hL hq) dX12_works_330 cw_X12_392 rfl rfl (Nat.le_of_ble_eq_true rfl) ⟨Nat.le_refl _, Nat.le_refl _⟩ rfl (fun rv hh hp _ => ?_)
  obtain ⟨rfl, rfl, hL⟩ := hp
  refine x_lstore (i := 6) (b := 335) (ls2 := [some (xr 12 0), none, none, none, none, none, some (xl v1), none]) dX12_works_333 (Nat.le_of_ble_eq_true rfl) rfl rfl ?_
  refine x_goto (tgt := 407) dX12_works_335 (by decide) ?_
  exact x_dp (ls2 := [some (xr 12 0), none, none, none, none, none, some (xl v1), none]) ⟨rfl, rfl, trivial⟩ (hr_407 v1 h2 hL hF)
set_option maxHeartbeats 4000000 in
set_option maxRecDepth 100000 in
theorem t_X12_works_8 (E : xE) (d : Nat) (rec : Rk) (r : Int × Hp) (hr_407 : ∀ (x6 : Int) (h : Hp), Lay h → rec 13 [x6] h = some r → X E mX12_works (d + 2) (0, 0) (0, 0) 407 [some (xr 12 0), none, none, none, none, none, some (xl x6), none] [] h (PoI r)) (y0 : Int) (h : Hp) (hL : Lay h) (hF : b_X12_works_8 rec y0 h = some r) : X E mX12_works (d + 2) (0, 0) (0, 0) 350 [some (xr 12 0), none, none, none, none, none, none, none] [xi y0] h (PoI r) := by
  unfold b_X12_works_8 at hF
  obtain ⟨v1, h2, hq, hF⟩ := bd_e hF
  refine x_callS (as := [xi y0]) (rest := []) (b := 353) (c_X12_is d y0 h _ hL hq) dX12_works_350 cw_X12_392 rfl rfl (Nat.le_of_ble_eq_true rfl) ⟨Nat.le_refl _, Nat.le_refl _⟩ rfl (fun rv hh hp _ => ?_)
  obtain ⟨rfl, rfl, hL⟩ := hp
  refine x_lstore (i := 6) (b := 355) (ls2 := [some (xr 12 0), none, none, none, none, none, some (xl v1), none]) dX12_works_353 (Nat.le_of_ble_eq_true rfl) rfl rfl ?_
  refine x_goto (tgt := 407) dX12_works_355 (by decide) ?_
  exact x_dp (ls2 := [some (xr 12 0), none, none, none, none, none, some (xl v1), none]) ⟨rfl, rfl, trivial⟩ (hr_407 v1 h2 hL hF)
set_option maxHeartbeats 4000000 in
set_option maxRecDepth 100000 in
theorem t_X12_works_9 (E : xE) (d : Nat) (rec : Rk) (r : Int × Hp) (hr_376 : ∀ (y0 : Int) (h : Hp), Lay h → rec 10 [y0] h = some r → X E mX12_works (d + 2) (0, 0) (0, 0) 376 [some (xr 12 0), none, none, none, none, none, none, none] [xi y0] h (PoI r)) (h : Hp) (hL : Lay h) (hF : b_X12_works_9 rec  h = some r) : X E mX12_works (d + 2) (0, 0) (0, 0) 375 [some (xr 12 0), none, none, none, none, none, none, none] [] h (PoI r) := by
  unfold b_X12_works_9 at hF
  refine x_iconst (n := 0) (b := 376) dX12_works_375 (by decide) rfl ?_
  exact x_dp (ls2 := [some (xr 12 0), none, none, none, none, none, none, none]) ⟨rfl, trivial⟩ (hr_376 0 h hL hF)
set_option maxHeartbeats 4000000 in
set_option maxRecDepth 100000 in
theorem t_X12_works_10 (E : xE) (d : Nat) (rec : Rk) (r : Int × Hp) (hr_407 : ∀ (x6 : Int) (h : Hp), Lay h → rec 13 [x6] h = some r → X E mX12_works (d + 2) (0, 0) (0, 0) 407 [some (xr 12 0), none, none, none, none, none, some (xl x6), none] [] h (PoI r)) (y0 : Int) (h : Hp) (hL : Lay h) (hF : b_X12_works_10 rec y0 h = some r) : X E mX12_works (d + 2) (0, 0) (0, 0) 376 [some (xr 12 0), none, none, none, none, none, none, none] [xi y0] h (PoI r) := by
  unfold b_X12_works_10 at hF
  obtain ⟨v1, h2, hq, hF⟩ := bd_e hF
  refine x_callS (as := [xi y0]) (rest := []) (b := 379) (c_X12_is d y0 h _ hL hq) dX12_works_376 cw_X12_392 rfl rfl (Nat.le_of_ble_eq_true rfl) ⟨Nat.le_refl _, Nat.le_refl _⟩ rfl (fun rv hh hp _ => ?_)
  obtain ⟨rfl, rfl, hL⟩ := hp
  refine x_lstore (i := 6) (b := 381) (ls2 := [some (xr 12 0), none, none, none, none, none, some (xl v1), none]) dX12_works_379 (Nat.le_of_ble_eq_true rfl) rfl rfl ?_
  refine x_goto (tgt := 407) dX12_works_381 (by decide) ?_
  exact x_dp (ls2 := [some (xr 12 0), none, none, none, none, none, some (xl v1), none]) ⟨rfl, rfl, trivial⟩ (hr_407 v1 h2 hL hF)
set_option maxHeartbeats 4000000 in
set_option maxRecDepth 100000 in
theorem t_X12_works_11 (E : xE) (d : Nat) (rec : Rk) (r : Int × Hp) (hr_402 : ∀ (y0 : Int) (h : Hp), Lay h → rec 12 [y0] h = some r → X E mX12_works (d + 2) (0, 0) (0, 0) 402 [some (xr 12 0), none, none, none, none, none, none, none] [xi y0] h (PoI r)) (h : Hp) (hL : Lay h) (hF : b_X12_works_11 rec  h = some r) : X E mX12_works (d + 2) (0, 0) (0, 0) 397 [some (xr 12 0), none, none, none, none, none, none, none] [] h (PoI r) := by
  unfold b_X12_works_11 at hF
  refine x_iconst (n := 1) (b := 398) dX12_works_397 (by decide) rfl ?_
  refine x_goto (tgt := 402) dX12_works_398 (by decide) ?_
  exact x_dp (ls2 := [some (xr 12 0), none, none, none, none, none, none, none]) ⟨rfl, trivial⟩ (hr_402 1 h hL hF)
set_option maxHeartbeats 4000000 in
set_option maxRecDepth 100000 in
theorem t_X12_works_12 (E : xE) (d : Nat) (rec : Rk) (r : Int × Hp) (hr_407 : ∀ (x6 : Int) (h : Hp), Lay h → rec 13 [x6] h = some r → X E mX12_works (d + 2) (0, 0) (0, 0) 407 [some (xr 12 0), none, none, none, none, none, some (xl x6), none] [] h (PoI r)) (y0 : Int) (h : Hp) (hL : Lay h) (hF : b_X12_works_12 rec y0 h = some r) : X E mX12_works (d + 2) (0, 0) (0, 0) 402 [some (xr 12 0), none, none, none, none, none, none, none] [xi y0] h (PoI r) := by
  unfold b_X12_works_12 at hF
  obtain ⟨v1, h2, hq, hF⟩ := bd_e hF
  refine x_callS (as := [xi y0]) (rest := []) (b := 405) (c_X12_is d y0 h _ hL hq) dX12_works_402 cw_X12_392 rfl rfl (Nat.le_of_ble_eq_true rfl) ⟨Nat.le_refl _, Nat.le_refl _⟩ rfl (fun rv hh hp _ => ?_)
  obtain ⟨rfl, rfl, hL⟩ := hp
  refine x_lstore (i := 6) (b := 407) (ls2 := [some (xr 12 0), none, none, none, none, none, some (xl v1), none]) dX12_works_405 (Nat.le_of_ble_eq_true rfl) rfl rfl ?_
  exact x_dp (ls2 := [some (xr 12 0), none, none, none, none, none, some (xl v1), none]) ⟨rfl, rfl, trivial⟩ (hr_407 v1 h2 hL hF)
set_option maxHeartbeats 4000000 in
set_option maxRecDepth 100000 in
theorem t_X12_works_13 (E : xE) (d : Nat) (rec : Rk) (r : Int × Hp) (x6 : Int) (h : Hp) (hL : Lay h) (hF : b_X12_works_13 rec x6 h = some r) : X E mX12_works (d + 2) (0, 0) (0, 0) 407 [some (xr 12 0), none, none, none, none, none, some (xl x6), none] [] h (PoI r) := by
  unfold b_X12_works_13 at hF
  refine x_aload_n (i := 0) (b := 408) dX12_works_407 rfl rfl rfl ?_
  refine x_getL (j := 0) (t := (99, 0, true)) (b := 411) fk_X12_139 dX12_works_408 rfl hL rfl rfl rfl ?_
  refine x_aload_n (i := 0) (b := 412) dX12_works_411 rfl rfl rfl ?_
  refine x_getI (v := gI h 12 0 60) (b := 415) fk_X12_389 dX12_works_412 (by decide) rfl rfl ?_
  refine x_iconst (n := 1) (b := 416) dX12_works_415 (by decide) rfl ?_
  obtain ⟨hs, hF⟩ := ck_e hF
  refine x_isub (b := 417) dX12_works_416 hs rfl ?_
  refine x_lload (i := 6) (b := 419) dX12_works_417 rfl rfl ?_
  obtain ⟨hs, hF⟩ := ck_e hF
  have hs1 := hs
  refine x_last (b := 420) ak_99 dX12_works_419 hs1 rfl ?_
  obtain ⟨h1, e_h1, hF⟩ := lt_e hF
  refine x_hp (h2 := h1) e_h1 ?_
  replace hL : Lay h1 := by rw [← e_h1]; exact hL
  refine x_lload (i := 6) (b := 422) dX12_works_420 rfl rfl ?_
  refine x_ldc2 (z := 1000000000000) (b := 425) dX12_works_422 kw_1986 (by decide) rfl ?_
  refine x_lcmp (b := 426) dX12_works_425 rfl ?_
  refine x_if_gt (tgt := 442) (b := 429) dX12_works_426 (by decide) rfl (fun hc => ?_) (fun hc => ?_)
  · replace hF := br_T hc hF
    refine x_iconst (n := 0) (b := 443) dX12_works_442 (by decide) rfl ?_
    refine x_zreturn dX12_works_443 rfl ⟨Nat.le_refl _, Nat.le_refl _⟩ (by decide) ?_
    cases hF
    exact ⟨rfl, rfl, hL⟩
  · replace hF := br_F hc hF
    refine x_lload (i := 6) (b := 431) dX12_works_429 rfl rfl ?_
    refine x_ldc2 (z := (-1000000000000)) (b := 434) dX12_works_431 kw_1987 (by decide) rfl ?_
    refine x_lcmp (b := 435) dX12_works_434 rfl ?_
    refine x_if_lt (tgt := 442) (b := 438) dX12_works_435 (by decide) rfl (fun hc => ?_) (fun hc => ?_)
    · replace hF := br_T hc hF
      refine x_iconst (n := 0) (b := 443) dX12_works_442 (by decide) rfl ?_
      refine x_zreturn dX12_works_443 rfl ⟨Nat.le_refl _, Nat.le_refl _⟩ (by decide) ?_
      cases hF
      exact ⟨rfl, rfl, hL⟩
    · replace hF := br_F hc hF
      refine x_iconst (n := 1) (b := 439) dX12_works_438 (by decide) rfl ?_
      refine x_goto (tgt := 443) dX12_works_439 (by decide) ?_
      refine x_zreturn dX12_works_443 rfl ⟨Nat.le_refl _, Nat.le_refl _⟩ (by decide) ?_
      cases hF
      exact ⟨rfl, rfl, hL⟩
set_option maxHeartbeats 4000000 in
set_option maxRecDepth 100000 in
theorem u_X12_works (E : xE) (d : Nat) (r : Int × Hp) : ∀ n : Nat, (∀ (x1 : Int) (h : Hp), Lay h → g_X12_works n 0 [x1] h = some r → X E mX12_works (d + 2) (0, 0) (0, 0) 0 [some (xr 12 0), some (xi x1), none, none, none, none, none, none] [] h (PoI r)) ∧ (∀ (y0 y1 : Int) (h : Hp), Lay h → g_X12_works n 1 [y0, y1] h = some r → X E mX12_works (d + 2) (0, 0) (0, 0) 40 [none, none, none, none, none, none, none, none] [xi y0, xi y1, xr 99 0] h (PoI r)) ∧ (∀ (x2 x4 : Int) (h : Hp), Lay h → g_X12_works n 2 [x2, x4] h = some r → X E mX12_works (d + 2) (0, 0) (0, 0) 212 [some (xr 12 0), none, some (xl x2), none, some (xl x4), none, none, none] [] h (PoI r)) ∧ (∀ (y0 : Int) (h : Hp), Lay h → g_X12_works n 3 [y0] h = some r → X E mX12_works (d + 2) (0, 0) (0, 0) 250 [some (xr 12 0), none, none, none, none, none, none, none] [xi y0] h (PoI r)) ∧ (∀ (y0 : Int) (h : Hp), Lay h → g_X12_works n 4 [y0] h = some r → X E mX12_works (d + 2) (0, 0) (0, 0) 270 [some (xr 12 0), none, none, none, none, none, none, none] [xi y0] h (PoI r)) ∧ (∀ (y0 : Int) (h : Hp), Lay h → g_X12_works n 5 [y0] h = some r → X E mX12_works (d + 2) (0, 0) (0, 0) 290 [some (xr 12 0), none, none, none, none, none, none, none] [xi y0] h (PoI r)) ∧ (∀ (y0 : Int) (h : Hp), Lay h → g_X12_works n 6 [y0] h = some r → X E mX12_works (d + 2) (0, 0) (0, 0) 310 [some (xr 12 0), none, none, none, none, none, none, none] [xi y0] h (PoI r)) ∧ (∀ (y0 : Int) (h : Hp), Lay h → g_X12_works n 7 [y0] h = some r → X E mX12_works (d + 2) (0, 0) (0, 0) 330 [some (xr 12 0), none, none, none, none, none, none, none] [xi y0] h (PoI r)) ∧ (∀ (y0 : Int) (h : Hp), Lay h → g_X12_works n 8 [y0] h = some r → X E mX12_works (d + 2) (0, 0) (0, 0) 350 [some (xr 12 0), none, none, none, none, none, none, none] [xi y0] h (PoI r)) ∧ (∀ (h : Hp), Lay h → g_X12_works n 9 [] h = some r → X E mX12_works (d + 2) (0, 0) (0, 0) 375 [some (xr 12 0), none, none, none, none, none, none, none] [] h (PoI r)) ∧ (∀ (y0 : Int) (h : Hp), Lay h → g_X12_works n 10 [y0] h = some r → X E mX12_works (d + 2) (0, 0) (0, 0) 376 [some (xr 12 0), none, none, none, none, none, none, none] [xi y0] h (PoI r)) ∧ (∀ (h : Hp), Lay h → g_X12_works n 11 [] h = some r → X E mX12_works (d + 2) (0, 0) (0, 0) 397 [some (xr 12 0), none, none, none, none, none, none, none] [] h (PoI r)) ∧ (∀ (y0 : Int) (h : Hp), Lay h → g_X12_works n 12 [y0] h = some r → X E mX12_works (d + 2) (0, 0) (0, 0) 402 [some (xr 12 0), none, none, none, none, none, none, none] [xi y0] h (PoI r)) ∧ (∀ (x6 : Int) (h : Hp), Lay h → g_X12_works n 13 [x6] h = some r → X E mX12_works (d + 2) (0, 0) (0, 0) 407 [some (xr 12 0), none, none, none, none, none, some (xl x6), none] [] h (PoI r)) := by
  intro n
  induction n with
  | zero => exact ⟨fun _ _ _ hF => no_e (r := r) hF, fun _ _ _ _ hF => no_e (r := r) hF, fun _ _ _ _ hF => no_e (r := r) hF, fun _ _ _ hF => no_e (r := r) hF, fun _ _ _ hF => no_e (r := r) hF, fun _ _ _ hF => no_e (r := r) hF, fun _ _ _ hF => no_e (r := r) hF, fun _ _ _ hF => no_e (r := r) hF, fun _ _ _ hF => no_e (r := r) hF, fun _ _ hF => no_e (r := r) hF, fun _ _ _ hF => no_e (r := r) hF, fun _ _ hF => no_e (r := r) hF, fun _ _ _ hF => no_e (r := r) hF, fun _ _ _ hF => no_e (r := r) hF⟩
  | succ n ih => exact ⟨fun x1 h hL hF => t_X12_works_0 E d (g_X12_works n) r ih.2.1 ih.2.2.1 ih.2.2.2.1 ih.2.2.2.2.1 ih.2.2.2.2.2.1 ih.2.2.2.2.2.2.1 ih.2.2.2.2.2.2.2.1 ih.2.2.2.2.2.2.2.2.1 ih.2.2.2.2.2.2.2.2.2.1 ih.2.2.2.2.2.2.2.2.2.2.1 ih.2.2.2.2.2.2.2.2.2.2.2.1 ih.2.2.2.2.2.2.2.2.2.2.2.2.1 ih.2.2.2.2.2.2.2.2.2.2.2.2.2 x1 h hL hF, fun y0 y1 h hL hF => t_X12_works_1 E d (g_X12_works n) r  y0 y1 h hL hF, fun x2 x4 h hL hF => t_X12_works_2 E d (g_X12_works n) r ih.2.2.2.2.2.2.2.2.2.2.2.2.2 x2 x4 h hL hF, fun y0 h hL hF => t_X12_works_3 E d (g_X12_works n) r ih.2.2.2.2.2.2.2.2.2.2.2.2.2 y0 h hL hF, fun y0 h hL hF => t_X12_works_4 E d (g_X12_works n) r ih.2.2.2.2.2.2.2.2.2.2.2.2.2 y0 h hL hF, fun y0 h hL hF => t_X12_works_5 E d (g_X12_works n) r ih.2.2.2.2.2.2.2.2.2.2.2.2.2 y0 h hL hF, fun y0 h hL hF => t_X12_works_6 E d (g_X12_works n) r ih.2.2.2.2.2.2.2.2.2.2.2.2.2 y0 h hL hF, fun y0 h hL hF => t_X12_works_7 E d (g_X12_works n) r ih.2.2.2.2.2.2.2.2.2.2.2.2.2 y0 h hL hF, fun y0 h hL hF => t_X12_works_8 E d (g_X12_works n) r ih.2.2.2.2.2.2.2.2.2.2.2.2.2 y0 h hL hF, fun h hL hF => t_X12_works_9 E d (g_X12_works n) r ih.2.2.2.2.2.2.2.2.2.2.1  h hL hF, fun y0 h hL hF => t_X12_works_10 E d (g_X12_works n) r ih.2.2.2.2.2.2.2.2.2.2.2.2.2 y0 h hL hF, fun h hL hF => t_X12_works_11 E d (g_X12_works n) r ih.2.2.2.2.2.2.2.2.2.2.2.2.1  h hL hF, fun y0 h hL hF => t_X12_works_12 E d (g_X12_works n) r ih.2.2.2.2.2.2.2.2.2.2.2.2.2 y0 h hL hF, fun x6 h hL hF => t_X12_works_13 E d (g_X12_works n) r  x6 h hL hF⟩
theorem c_X12_works (d : Nat) (x1 : Int) (h : Hp) (r : Int × Hp) (hL : Lay h) (hF : f_X12_works x1 h = some r) : Sp mX12_works (d + 2) (0, 0) [xr 12 0, xi x1] h (PoI r) :=
  sp_of (by decide) rfl (Nat.le_of_ble_eq_true rfl) (ls := [some (xr 12 0), some (xi x1), none, none, none, none, none, none]) rfl (fun E _ => (u_X12_works E d r FU).1 x1 h hL hF)
theorem dX12_wrong_0 : decode cX12_wrong 0 = .ok (.aload_n 0, 1) := by decide +kernel
theorem dX12_wrong_1 : decode cX12_wrong 1 = .ok (.getfield 247, 3) := by decide +kernel
theorem dX12_wrong_4 : decode cX12_wrong 4 = .ok (.ifCond .eq 4, 3) := by decide +kernel
theorem dX12_wrong_7 : decode cX12_wrong 7 = .ok (.return_, 1) := by decide +kernel
theorem dX12_wrong_8 : decode cX12_wrong 8 = .ok (.aload_n 0, 1) := by decide +kernel
theorem dX12_wrong_9 : decode cX12_wrong 9 = .ok (.iload_n 1, 1) := by decide +kernel
theorem dX12_wrong_10 : decode cX12_wrong 10 = .ok (.putfield 247, 3) := by decide +kernel
theorem dX12_wrong_13 : decode cX12_wrong 13 = .ok (.aload_n 0, 1) := by decide +kernel
theorem dX12_wrong_14 : decode cX12_wrong 14 = .ok (.aload_n 0, 1) := by decide +kernel
theorem dX12_wrong_15 : decode cX12_wrong 15 = .ok (.getfield 210, 3) := by decide +kernel
theorem dX12_wrong_18 : decode cX12_wrong 18 = .ok (.putfield 250, 3) := by decide +kernel
theorem dX12_wrong_21 : decode cX12_wrong 21 = .ok (.return_, 1) := by decide +kernel
noncomputable def b_X12_wrong_0 (rec : Rk) (x1 : Int) (h : Hp) : Option (Int × Hp) :=
  if (gI h 12 0 32) = 0 then (
    lt (sI h 12 0 32 x1) fun h1 =>
    lt (sI h1 12 0 33 (gI h1 12 0 29)) fun h2 =>
    some (0, h2)
  ) else (
    some (0, h)
  )
noncomputable def g_X12_wrong (n : Nat) : Rk := Nat.rec (motive := fun _ => Rk) (fun _ _ _ => none) (fun _ rec k l h => if k = 0 then b_X12_wrong_0 rec (l.getD 0 0) h else none) n
noncomputable def f_X12_wrong (x1 : Int) (h : Hp) : Option (Int × Hp) := g_X12_wrong FU 0 [x1] h
set_option maxHeartbeats 4000000 in
set_option maxRecDepth 100000 in
theorem t_X12_wrong_0 (E : xE) (d : Nat) (rec : Rk) (r : Int × Hp) (x1 : Int) (h : Hp) (hL : Lay h) (hF : b_X12_wrong_0 rec x1 h = some r) : X E mX12_wrong (d + 1) (0, 0) (0, 0) 0 [some (xr 12 0), some (xi x1)] [] h (PoV r) := by
  unfold b_X12_wrong_0 at hF
  refine x_aload_n (i := 0) (b := 1) dX12_wrong_0 rfl rfl rfl ?_
  refine x_getI (v := gI h 12 0 32) (b := 4) fk_X12_247 dX12_wrong_1 (by decide) rfl rfl ?_
  refine x_if_eq (tgt := 8) (b := 7) dX12_wrong_4 (by decide) rfl (fun hc => ?_) (fun hc => ?_)
  · replace hF := br_T hc hF
    refine x_aload_n (i := 0) (b := 9) dX12_wrong_8 rfl rfl rfl ?_
    refine x_iload_n (i := 1) (b := 10) dX12_wrong_9 rfl rfl rfl ?_
    refine x_putI (b := 13) fk_X12_247 dX12_wrong_10 rfl rfl 32 rfl ?_
    obtain ⟨h1, e_h1, hF⟩ := lt_e hF
    refine x_hp (h2 := h1) e_h1 ?_
    replace hL : Lay h1 := by rw [← e_h1]; exact hL
    refine x_aload_n (i := 0) (b := 14) dX12_wrong_13 rfl rfl rfl ?_
    refine x_aload_n (i := 0) (b := 15) dX12_wrong_14 rfl rfl rfl ?_
    refine x_getI (v := gI h1 12 0 29) (b := 18) fk_X12_210 dX12_wrong_15 (by decide) rfl rfl ?_
    refine x_putI (b := 21) fk_X12_250 dX12_wrong_18 rfl rfl 33 rfl ?_
    obtain ⟨h2, e_h2, hF⟩ := lt_e hF
    refine x_hp (h2 := h2) e_h2 ?_
    replace hL : Lay h2 := by rw [← e_h2]; exact hL
    refine x_return dX12_wrong_21 rfl ⟨Nat.le_refl _, Nat.le_refl _⟩ ?_
    cases hF
    exact ⟨rfl, rfl, hL⟩
  · replace hF := br_F hc hF
    refine x_return dX12_wrong_7 rfl ⟨Nat.le_refl _, Nat.le_refl _⟩ ?_
    cases hF
    exact ⟨rfl, rfl, hL⟩
set_option maxHeartbeats 4000000 in
set_option maxRecDepth 100000 in
theorem u_X12_wrong (E : xE) (d : Nat) (r : Int × Hp) : ∀ n : Nat, (∀ (x1 : Int) (h : Hp), Lay h → g_X12_wrong n 0 [x1] h = some r → X E mX12_wrong (d + 1) (0, 0) (0, 0) 0 [some (xr 12 0), some (xi x1)] [] h (PoV r)) := by
  intro n
  induction n with
  | zero => exact fun _ _ _ hF => no_e (r := r) hF
  | succ n ih => exact fun x1 h hL hF => t_X12_wrong_0 E d (g_X12_wrong n) r  x1 h hL hF
theorem c_X12_wrong (d : Nat) (x1 : Int) (h : Hp) (r : Int × Hp) (hL : Lay h) (hF : f_X12_wrong x1 h = some r) : Sp mX12_wrong (d + 1) (0, 0) [xr 12 0, xi x1] h (PoV r) :=
  sp_of (by decide) rfl (Nat.le_of_ble_eq_true rfl) (ls := [some (xr 12 0), some (xi x1)]) rfl (fun E _ => (u_X12_wrong E d r FU) x1 h hL hF)
theorem dX1_add_0 : decode cX1_add 0 = .ok (.aload_n 0, 1) := by decide +kernel
theorem dX1_add_1 : decode cX1_add 1 = .ok (.getfield 16, 3) := by decide +kernel
theorem dX1_add_4 : decode cX1_add 4 = .ok (.ifCond .lt 42, 3) := by decide +kernel
theorem dX1_add_7 : decode cX1_add 7 = .ok (.aload_n 0, 1) := by decide +kernel
theorem dX1_add_8 : decode cX1_add 8 = .ok (.getfield 16, 3) := by decide +kernel
theorem dX1_add_11 : decode cX1_add 11 = .ok (.bipush 64, 2) := by decide +kernel
theorem dX1_add_13 : decode cX1_add 13 = .ok (.if_icmp .ge 33, 3) := by decide +kernel
theorem dX1_add_16 : decode cX1_add 16 = .ok (.aload_n 0, 1) := by decide +kernel
theorem dX1_add_17 : decode cX1_add 17 = .ok (.getfield 9, 3) := by decide +kernel
theorem dX1_add_20 : decode cX1_add 20 = .ok (.aload_n 0, 1) := by decide +kernel
theorem dX1_add_21 : decode cX1_add 21 = .ok (.getfield 16, 3) := by decide +kernel
theorem dX1_add_24 : decode cX1_add 24 = .ok (.iload_n 1, 1) := by decide +kernel
theorem dX1_add_25 : decode cX1_add 25 = .ok (.iastore, 1) := by decide +kernel
theorem dX1_add_26 : decode cX1_add 26 = .ok (.aload_n 0, 1) := by decide +kernel
theorem dX1_add_27 : decode cX1_add 27 = .ok (.getfield 13, 3) := by decide +kernel
theorem dX1_add_30 : decode cX1_add 30 = .ok (.aload_n 0, 1) := by decide +kernel
theorem dX1_add_31 : decode cX1_add 31 = .ok (.getfield 16, 3) := by decide +kernel
theorem dX1_add_34 : decode cX1_add 34 = .ok (.iload_n 2, 1) := by decide +kernel
theorem dX1_add_35 : decode cX1_add 35 = .ok (.iastore, 1) := by decide +kernel
theorem dX1_add_36 : decode cX1_add 36 = .ok (.aload_n 0, 1) := by decide +kernel
theorem dX1_add_37 : decode cX1_add 37 = .ok (.dup, 1) := by decide +kernel
theorem dX1_add_38 : decode cX1_add 38 = .ok (.getfield 16, 3) := by decide +kernel
theorem dX1_add_41 : decode cX1_add 41 = .ok (.iconst 1, 1) := by decide +kernel
theorem dX1_add_42 : decode cX1_add 42 = .ok (.iadd, 1) := by decide +kernel
theorem dX1_add_43 : decode cX1_add 43 = .ok (.putfield 16, 3) := by decide +kernel
theorem dX1_add_46 : decode cX1_add 46 = .ok (.return_, 1) := by decide +kernel
noncomputable def b_X1_add_0 (rec : Rk) (x0 x1 x2 : Int) (h : Hp) : Option (Int × Hp) :=
  if (gI h 1 x0 2) < 0 then (
    some (0, h)
  ) else (
    if 64 ≤ (gI h 1 x0 2) then (
      some (0, h)
    ) else (
      ck (0 ≤ (gI h 1 x0 2) ∧ (gI h 1 x0 2) < 64) <|
      lt (sI h 25 x0 (gI h 1 x0 2) x1) fun h1 =>
      ck (0 ≤ (gI h1 1 x0 2) ∧ (gI h1 1 x0 2) < 64) <|
      lt (sI h1 26 x0 (gI h1 1 x0 2) x2) fun h2 =>
      ck (-2147483648 ≤ (gI h2 1 x0 2) + 1 ∧ (gI h2 1 x0 2) + 1 < 2147483648) <|
      lt (sI h2 1 x0 2 ((gI h2 1 x0 2) + 1)) fun h3 =>
      some (0, h3)
    )
  )
noncomputable def g_X1_add (n : Nat) : Rk := Nat.rec (motive := fun _ => Rk) (fun _ _ _ => none) (fun _ rec k l h => if k = 0 then b_X1_add_0 rec (l.getD 0 0) (l.getD 1 0) (l.getD 2 0) h else none) n
noncomputable def f_X1_add (x0 x1 x2 : Int) (h : Hp) : Option (Int × Hp) := g_X1_add FU 0 [x0, x1, x2] h
set_option maxHeartbeats 4000000 in
set_option maxRecDepth 100000 in
theorem t_X1_add_0 (E : xE) (d : Nat) (rec : Rk) (r : Int × Hp) (x0 x1 x2 : Int) (h : Hp) (hL : Lay h) (hF : b_X1_add_0 rec x0 x1 x2 h = some r) : X E mX1_add (d + 1) (0, 0) (0, 0) 0 [some (xr 1 x0), some (xi x1), some (xi x2)] [] h (PoV r) := by
  unfold b_X1_add_0 at hF
  refine x_aload_n (i := 0) (b := 1) dX1_add_0 rfl rfl rfl ?_
  refine x_getI (v := gI h 1 x0 2) (b := 4) fk_X1_16 dX1_add_1 (by decide) rfl rfl ?_
  refine x_if_lt (tgt := 46) (b := 7) dX1_add_4 (by decide) rfl (fun hc => ?_) (fun hc => ?_)
  · replace hF := br_T hc hF
    refine x_return dX1_add_46 rfl ⟨Nat.le_refl _, Nat.le_refl _⟩ ?_
    cases hF
    exact ⟨rfl, rfl, hL⟩
  · replace hF := br_F hc hF
    refine x_aload_n (i := 0) (b := 8) dX1_add_7 rfl rfl rfl ?_
    refine x_getI (v := gI h 1 x0 2) (b := 11) fk_X1_16 dX1_add_8 (by decide) rfl rfl ?_
    refine x_bipush (n := 64) (b := 13) dX1_add_11 (by decide) rfl ?_
    refine x_icmp_ge (tgt := 46) (b := 16) dX1_add_13 (by decide) rfl (fun hc => ?_) (fun hc => ?_)
    · replace hF := br_T hc hF
      refine x_return dX1_add_46 rfl ⟨Nat.le_refl _, Nat.le_refl _⟩ ?_
      cases hF
      exact ⟨rfl, rfl, hL⟩
    · replace hF := br_F hc hF
      refine x_aload_n (i := 0) (b := 17) dX1_add_16 rfl rfl rfl ?_
      refine x_getL (j := x0) (t := (25, 0, true)) (b := 20) fk_X1_9 dX1_add_17 rfl hL rfl rfl rfl ?_
      refine x_aload_n (i := 0) (b := 21) dX1_add_20 rfl rfl rfl ?_
      refine x_getI (v := gI h 1 x0 2) (b := 24) fk_X1_16 dX1_add_21 (by decide) rfl rfl ?_
      refine x_iload_n (i := 1) (b := 25) dX1_add_24 rfl rfl rfl ?_
      obtain ⟨hs, hF⟩ := ck_e hF
      have hs1 := hs
      refine x_iast (b := 26) ak_25 dX1_add_25 hs1 rfl ?_
      obtain ⟨h1, e_h1, hF⟩ := lt_e hF
      refine x_hp (h2 := h1) e_h1 ?_
      replace hL : Lay h1 := by rw [← e_h1]; exact hL
      refine x_aload_n (i := 0) (b := 27) dX1_add_26 rfl rfl rfl ?_
      refine x_getL (j := x0) (t := (26, 0, true)) (b := 30) fk_X1_13 dX1_add_27 rfl hL rfl rfl rfl ?_
      refine x_aload_n (i := 0) (b := 31) dX1_add_30 rfl rfl rfl ?_
      refine x_getI (v := gI h1 1 x0 2) (b := 34) fk_X1_16 dX1_add_31 (by decide) rfl rfl ?_
      refine x_iload_n (i := 2) (b := 35) dX1_add_34 rfl rfl rfl ?_
      obtain ⟨hs, hF⟩ := ck_e hF
      have hs1 := hs
      refine x_iast (b := 36) ak_26 dX1_add_35 hs1 rfl ?_
      obtain ⟨h2, e_h2, hF⟩ := lt_e hF
      refine x_hp (h2 := h2) e_h2 ?_
      replace hL : Lay h2 := by rw [← e_h2]; exact hL
      refine x_aload_n (i := 0) (b := 37) dX1_add_36 rfl rfl rfl ?_
      refine x_dup (b := 38) dX1_add_37 rfl rfl ?_
      refine x_getI (v := gI h2 1 x0 2) (b := 41) fk_X1_16 dX1_add_38 (by decide) rfl rfl ?_
      refine x_iconst (n := 1) (b := 42) dX1_add_41 (by decide) rfl ?_
      obtain ⟨hs, hF⟩ := ck_e hF
      refine x_iadd (b := 43) dX1_add_42 hs rfl ?_
      refine x_putI (b := 46) fk_X1_16 dX1_add_43 rfl rfl 2 rfl ?_
      obtain ⟨h3, e_h3, hF⟩ := lt_e hF
      refine x_hp (h2 := h3) e_h3 ?_
      replace hL : Lay h3 := by rw [← e_h3]; exact hL
      refine x_return dX1_add_46 rfl ⟨Nat.le_refl _, Nat.le_refl _⟩ ?_
      cases hF
      exact ⟨rfl, rfl, hL⟩
set_option maxHeartbeats 4000000 in
set_option maxRecDepth 100000 in
theorem u_X1_add (E : xE) (d : Nat) (r : Int × Hp) : ∀ n : Nat, (∀ (x0 x1 x2 : Int) (h : Hp), Lay h → g_X1_add n 0 [x0, x1, x2] h = some r → X E mX1_add (d + 1) (0, 0) (0, 0) 0 [some (xr 1 x0), some (xi x1), some (xi x2)] [] h (PoV r)) := by
  intro n
  induction n with
  | zero => exact fun _ _ _ _ _ hF => no_e (r := r) hF
  | succ n ih => exact fun x0 x1 x2 h hL hF => t_X1_add_0 E d (g_X1_add n) r  x0 x1 x2 h hL hF
theorem c_X1_add (d : Nat) (x0 x1 x2 : Int) (h : Hp) (r : Int × Hp) (hL : Lay h) (hF : f_X1_add x0 x1 x2 h = some r) : Sp mX1_add (d + 1) (0, 0) [xr 1 x0, xi x1, xi x2] h (PoV r) :=
  sp_of (by decide) rfl (Nat.le_of_ble_eq_true rfl) (ls := [some (xr 1 x0), some (xi x1), some (xi x2)]) rfl (fun E _ => (u_X1_add E d r FU) x0 x1 x2 h hL hF)
theorem dX1_join_0 : decode cX1_join 0 = .ok (.iload_n 0, 1) := by decide +kernel
theorem dX1_join_1 : decode cX1_join 1 = .ok (.tableswitch 231 2 14 #[67, 85, 231, 103, 115, 127, 139, 151, 163, 175, 179, 183, 215], 67) := by decide +kernel
theorem dX1_join_68 : decode cX1_join 68 = .ok (.lload_n 1, 1) := by decide +kernel
theorem dX1_join_69 : decode cX1_join 69 = .ok (.lconst 0, 1) := by decide +kernel
theorem dX1_join_70 : decode cX1_join 70 = .ok (.lcmp, 1) := by decide +kernel
theorem dX1_join_71 : decode cX1_join 71 = .ok (.ifCond .ne 9, 3) := by decide +kernel
theorem dX1_join_74 : decode cX1_join 74 = .ok (.lload_n 3, 1) := by decide +kernel
theorem dX1_join_75 : decode cX1_join 75 = .ok (.lconst 0, 1) := by decide +kernel
theorem dX1_join_76 : decode cX1_join 76 = .ok (.lcmp, 1) := by decide +kernel
theorem dX1_join_77 : decode cX1_join 77 = .ok (.ifCond .eq 7, 3) := by decide +kernel
theorem dX1_join_80 : decode cX1_join 80 = .ok (.lconst 1, 1) := by decide +kernel
theorem dX1_join_81 : decode cX1_join 81 = .ok (.goto 4, 3) := by decide +kernel
theorem dX1_join_84 : decode cX1_join 84 = .ok (.lconst 0, 1) := by decide +kernel
theorem dX1_join_85 : decode cX1_join 85 = .ok (.lreturn, 1) := by decide +kernel
theorem dX1_join_86 : decode cX1_join 86 = .ok (.lload_n 1, 1) := by decide +kernel
theorem dX1_join_87 : decode cX1_join 87 = .ok (.lconst 0, 1) := by decide +kernel
theorem dX1_join_88 : decode cX1_join 88 = .ok (.lcmp, 1) := by decide +kernel
theorem dX1_join_89 : decode cX1_join 89 = .ok (.ifCond .eq 13, 3) := by decide +kernel
theorem dX1_join_92 : decode cX1_join 92 = .ok (.lload_n 3, 1) := by decide +kernel
theorem dX1_join_93 : decode cX1_join 93 = .ok (.lconst 0, 1) := by decide +kernel
theorem dX1_join_94 : decode cX1_join 94 = .ok (.lcmp, 1) := by decide +kernel
theorem dX1_join_95 : decode cX1_join 95 = .ok (.ifCond .eq 7, 3) := by decide +kernel
theorem dX1_join_98 : decode cX1_join 98 = .ok (.lconst 1, 1) := by decide +kernel
theorem dX1_join_99 : decode cX1_join 99 = .ok (.goto 4, 3) := by decide +kernel
theorem dX1_join_102 : decode cX1_join 102 = .ok (.lconst 0, 1) := by decide +kernel
theorem dX1_join_103 : decode cX1_join 103 = .ok (.lreturn, 1) := by decide +kernel
theorem dX1_join_104 : decode cX1_join 104 = .ok (.lload_n 1, 1) := by decide +kernel
theorem dX1_join_105 : decode cX1_join 105 = .ok (.lload_n 3, 1) := by decide +kernel
theorem dX1_join_106 : decode cX1_join 106 = .ok (.lcmp, 1) := by decide +kernel
theorem dX1_join_107 : decode cX1_join 107 = .ok (.ifCond .ge 7, 3) := by decide +kernel
theorem dX1_join_110 : decode cX1_join 110 = .ok (.lconst 1, 1) := by decide +kernel
theorem dX1_join_111 : decode cX1_join 111 = .ok (.goto 4, 3) := by decide +kernel
theorem dX1_join_114 : decode cX1_join 114 = .ok (.lconst 0, 1) := by decide +kernel
theorem dX1_join_115 : decode cX1_join 115 = .ok (.lreturn, 1) := by decide +kernel
theorem dX1_join_116 : decode cX1_join 116 = .ok (.lload_n 1, 1) := by decide +kernel
theorem dX1_join_117 : decode cX1_join 117 = .ok (.lload_n 3, 1) := by decide +kernel
theorem dX1_join_118 : decode cX1_join 118 = .ok (.lcmp, 1) := by decide +kernel
theorem dX1_join_119 : decode cX1_join 119 = .ok (.ifCond .gt 7, 3) := by decide +kernel
theorem dX1_join_122 : decode cX1_join 122 = .ok (.lconst 1, 1) := by decide +kernel
theorem dX1_join_123 : decode cX1_join 123 = .ok (.goto 4, 3) := by decide +kernel
theorem dX1_join_126 : decode cX1_join 126 = .ok (.lconst 0, 1) := by decide +kernel
theorem dX1_join_127 : decode cX1_join 127 = .ok (.lreturn, 1) := by decide +kernel
theorem dX1_join_128 : decode cX1_join 128 = .ok (.lload_n 1, 1) := by decide +kernel
theorem dX1_join_129 : decode cX1_join 129 = .ok (.lload_n 3, 1) := by decide +kernel
theorem dX1_join_130 : decode cX1_join 130 = .ok (.lcmp, 1) := by decide +kernel
theorem dX1_join_131 : decode cX1_join 131 = .ok (.ifCond .ne 7, 3) := by decide +kernel
theorem dX1_join_134 : decode cX1_join 134 = .ok (.lconst 1, 1) := by decide +kernel
theorem dX1_join_135 : decode cX1_join 135 = .ok (.goto 4, 3) := by decide +kernel
theorem dX1_join_138 : decode cX1_join 138 = .ok (.lconst 0, 1) := by decide +kernel
theorem dX1_join_139 : decode cX1_join 139 = .ok (.lreturn, 1) := by decide +kernel
theorem dX1_join_140 : decode cX1_join 140 = .ok (.lload_n 1, 1) := by decide +kernel
theorem dX1_join_141 : decode cX1_join 141 = .ok (.lload_n 3, 1) := by decide +kernel
theorem dX1_join_142 : decode cX1_join 142 = .ok (.lcmp, 1) := by decide +kernel
theorem dX1_join_143 : decode cX1_join 143 = .ok (.ifCond .eq 7, 3) := by decide +kernel
theorem dX1_join_146 : decode cX1_join 146 = .ok (.lconst 1, 1) := by decide +kernel
theorem dX1_join_147 : decode cX1_join 147 = .ok (.goto 4, 3) := by decide +kernel
theorem dX1_join_150 : decode cX1_join 150 = .ok (.lconst 0, 1) := by decide +kernel
theorem dX1_join_151 : decode cX1_join 151 = .ok (.lreturn, 1) := by decide +kernel
theorem dX1_join_152 : decode cX1_join 152 = .ok (.lload_n 1, 1) := by decide +kernel
theorem dX1_join_153 : decode cX1_join 153 = .ok (.lload_n 3, 1) := by decide +kernel
theorem dX1_join_154 : decode cX1_join 154 = .ok (.lcmp, 1) := by decide +kernel
theorem dX1_join_155 : decode cX1_join 155 = .ok (.ifCond .lt 7, 3) := by decide +kernel
theorem dX1_join_158 : decode cX1_join 158 = .ok (.lconst 1, 1) := by decide +kernel
theorem dX1_join_159 : decode cX1_join 159 = .ok (.goto 4, 3) := by decide +kernel
theorem dX1_join_162 : decode cX1_join 162 = .ok (.lconst 0, 1) := by decide +kernel
theorem dX1_join_163 : decode cX1_join 163 = .ok (.lreturn, 1) := by decide +kernel
theorem dX1_join_164 : decode cX1_join 164 = .ok (.lload_n 1, 1) := by decide +kernel
theorem dX1_join_165 : decode cX1_join 165 = .ok (.lload_n 3, 1) := by decide +kernel
theorem dX1_join_166 : decode cX1_join 166 = .ok (.lcmp, 1) := by decide +kernel
theorem dX1_join_167 : decode cX1_join 167 = .ok (.ifCond .le 7, 3) := by decide +kernel
theorem dX1_join_170 : decode cX1_join 170 = .ok (.lconst 1, 1) := by decide +kernel
theorem dX1_join_171 : decode cX1_join 171 = .ok (.goto 4, 3) := by decide +kernel
theorem dX1_join_174 : decode cX1_join 174 = .ok (.lconst 0, 1) := by decide +kernel
theorem dX1_join_175 : decode cX1_join 175 = .ok (.lreturn, 1) := by decide +kernel
theorem dX1_join_176 : decode cX1_join 176 = .ok (.lload_n 1, 1) := by decide +kernel
theorem dX1_join_177 : decode cX1_join 177 = .ok (.lload_n 3, 1) := by decide +kernel
theorem dX1_join_178 : decode cX1_join 178 = .ok (.ladd, 1) := by decide +kernel
theorem dX1_join_179 : decode cX1_join 179 = .ok (.lreturn, 1) := by decide +kernel
theorem dX1_join_180 : decode cX1_join 180 = .ok (.lload_n 1, 1) := by decide +kernel
theorem dX1_join_181 : decode cX1_join 181 = .ok (.lload_n 3, 1) := by decide +kernel
theorem dX1_join_182 : decode cX1_join 182 = .ok (.lsub, 1) := by decide +kernel
theorem dX1_join_183 : decode cX1_join 183 = .ok (.lreturn, 1) := by decide +kernel
theorem dX1_join_184 : decode cX1_join 184 = .ok (.lload_n 1, 1) := by decide +kernel
theorem dX1_join_185 : decode cX1_join 185 = .ok (.lconst 0, 1) := by decide +kernel
theorem dX1_join_186 : decode cX1_join 186 = .ok (.lcmp, 1) := by decide +kernel
theorem dX1_join_187 : decode cX1_join 187 = .ok (.ifCond .eq 25, 3) := by decide +kernel
theorem dX1_join_190 : decode cX1_join 190 = .ok (.lload_n 3, 1) := by decide +kernel
theorem dX1_join_191 : decode cX1_join 191 = .ok (.invokestatic 43, 3) := by decide +kernel
theorem dX1_join_194 : decode cX1_join 194 = .ok (.ldc2_w 39, 3) := by decide +kernel
theorem dX1_join_197 : decode cX1_join 197 = .ok (.lload_n 1, 1) := by decide +kernel
theorem dX1_join_198 : decode cX1_join 198 = .ok (.invokestatic 43, 3) := by decide +kernel
theorem dX1_join_201 : decode cX1_join 201 = .ok (.ldiv, 1) := by decide +kernel
theorem dX1_join_202 : decode cX1_join 202 = .ok (.lcmp, 1) := by decide +kernel
theorem dX1_join_203 : decode cX1_join 203 = .ok (.ifCond .le 9, 3) := by decide +kernel
theorem dX1_join_206 : decode cX1_join 206 = .ok (.ldc2_w 33, 3) := by decide +kernel
theorem dX1_join_209 : decode cX1_join 209 = .ok (.goto 6, 3) := by decide +kernel
theorem dX1_join_212 : decode cX1_join 212 = .ok (.lload_n 1, 1) := by decide +kernel
theorem dX1_join_213 : decode cX1_join 213 = .ok (.lload_n 3, 1) := by decide +kernel
theorem dX1_join_214 : decode cX1_join 214 = .ok (.lmul, 1) := by decide +kernel
theorem dX1_join_215 : decode cX1_join 215 = .ok (.lreturn, 1) := by decide +kernel
theorem dX1_join_216 : decode cX1_join 216 = .ok (.lload_n 3, 1) := by decide +kernel
theorem dX1_join_217 : decode cX1_join 217 = .ok (.lconst 0, 1) := by decide +kernel
theorem dX1_join_218 : decode cX1_join 218 = .ok (.lcmp, 1) := by decide +kernel
theorem dX1_join_219 : decode cX1_join 219 = .ok (.ifCond .ne 9, 3) := by decide +kernel
theorem dX1_join_222 : decode cX1_join 222 = .ok (.ldc2_w 33, 3) := by decide +kernel
theorem dX1_join_225 : decode cX1_join 225 = .ok (.goto 6, 3) := by decide +kernel
theorem dX1_join_228 : decode cX1_join 228 = .ok (.lload_n 1, 1) := by decide +kernel
theorem dX1_join_229 : decode cX1_join 229 = .ok (.lload_n 3, 1) := by decide +kernel
theorem dX1_join_230 : decode cX1_join 230 = .ok (.ldiv, 1) := by decide +kernel
theorem dX1_join_231 : decode cX1_join 231 = .ok (.lreturn, 1) := by decide +kernel
theorem dX1_join_232 : decode cX1_join 232 = .ok (.ldc2_w 33, 3) := by decide +kernel
theorem dX1_join_235 : decode cX1_join 235 = .ok (.lreturn, 1) := by decide +kernel
noncomputable def b_X1_join_0 (rec : Rk) (x0 x1 x3 : Int) (h : Hp) : Option (Int × Hp) :=
  if x0 = 2 then (
    if (lc x1 0) = 0 then (
      if (lc x3 0) = 0 then (
        some (0, h)
      ) else (
        rec 1 [] h
      )
    ) else (
      rec 1 [] h
    )
  ) else (
  if x0 = 3 then (
    if (lc x1 0) = 0 then (
      some (0, h)
    ) else (
      if (lc x3 0) = 0 then (
        some (0, h)
      ) else (
        some (1, h)
      )
    )
  ) else (
  if x0 = 5 then (
    if 0 ≤ (lc x1 x3) then (
      some (0, h)
    ) else (
      some (1, h)
    )
  ) else (
  if x0 = 6 then (
    if 0 < (lc x1 x3) then (
      some (0, h)
    ) else (
      some (1, h)
    )
  ) else (
  if x0 = 7 then (
    if (lc x1 x3) = 0 then (
      some (1, h)
    ) else (
      some (0, h)
    )
  ) else (
  if x0 = 8 then (
    if (lc x1 x3) = 0 then (
      some (0, h)
    ) else (
      some (1, h)
    )
  ) else (
  if x0 = 9 then (
    if (lc x1 x3) < 0 then (
      some (0, h)
    ) else (
      some (1, h)
    )
  ) else (
  if x0 = 10 then (
    if (lc x1 x3) ≤ 0 then (
      some (0, h)
    ) else (
      some (1, h)
    )
  ) else (
  if x0 = 11 then (
    ck (-9223372036854775808 ≤ x1 + x3 ∧ x1 + x3 < 9223372036854775808) <|
    some (x1 + x3, h)
  ) else (
  if x0 = 12 then (
    ck (-9223372036854775808 ≤ x1 - x3 ∧ x1 - x3 < 9223372036854775808) <|
    some (x1 - x3, h)
  ) else (
  if x0 = 13 then (
    if (lc x1 0) = 0 then (
      ck (-9223372036854775808 ≤ x1 * x3 ∧ x1 * x3 < 9223372036854775808) <|
      some (x1 * x3, h)
    ) else (
      ck (-9223372036854775808 < x3) <|
      ck (-9223372036854775808 < x1) <|
      ck ((if 0 < x1 then x1 else -x1) ≠ (0 : Int) ∧ -9223372036854775808 ≤ Int.tdiv 1000000000000 (if 0 < x1 then x1 else -x1) ∧ Int.tdiv 1000000000000 (if 0 < x1 then x1 else -x1) < 9223372036854775808) <|
      if (lc (if 0 < x3 then x3 else -x3) (Int.tdiv 1000000000000 (if 0 < x1 then x1 else -x1))) ≤ 0 then (
        ck (-9223372036854775808 ≤ x1 * x3 ∧ x1 * x3 < 9223372036854775808) <|
        some (x1 * x3, h)
      ) else (
        some ((-9223372036854775808), h)
      )
    )
  ) else (
  if x0 = 14 then (
    if (lc x3 0) = 0 then (
      some ((-9223372036854775808), h)
    ) else (
      ck (x3 ≠ (0 : Int) ∧ -9223372036854775808 ≤ Int.tdiv x1 x3 ∧ Int.tdiv x1 x3 < 9223372036854775808) <|
      some (Int.tdiv x1 x3, h)
    )
  ) else (
    some ((-9223372036854775808), h)
  )
  )
  )
  )
  )
  )
  )
  )
  )
  )
  )
  )
noncomputable def b_X1_join_1 (rec : Rk) (h : Hp) : Option (Int × Hp) :=
  some (1, h)
noncomputable def g_X1_join (n : Nat) : Rk := Nat.rec (motive := fun _ => Rk) (fun _ _ _ => none) (fun _ rec k l h => if k = 0 then b_X1_join_0 rec (l.getD 0 0) (l.getD 1 0) (l.getD 2 0) h else if k = 1 then b_X1_join_1 rec  h else none) n
noncomputable def f_X1_join (x0 x1 x3 : Int) (h : Hp) : Option (Int × Hp) := g_X1_join FU 0 [x0, x1, x3] h
set_option maxHeartbeats 4000000 in
set_option maxRecDepth 100000 in
theorem t_X1_join_0 (E : xE) (d : Nat) (rec : Rk) (r : Int × Hp) (hr_80 : ∀ (h : Hp), Lay h → rec 1 [] h = some r → X E mX1_join (d + 1) (0, 0) (0, 0) 80 [none, none, none, none, none] [] h (PoL r)) (x0 x1 x3 : Int) (h : Hp) (hL : Lay h) (hF : b_X1_join_0 rec x0 x1 x3 h = some r) : X E mX1_join (d + 1) (0, 0) (0, 0) 0 [some (xi x0), some (xl x1), none, some (xl x3), none] [] h (PoL r) := by
  unfold b_X1_join_0 at hF
  refine x_iload_n (i := 0) (b := 1) dX1_join_0 rfl rfl rfl ?_
  by_cases hw1_2 : x0 = 2
  · replace hF := br_T hw1_2 hF
    refine x_tableIn (tgt := 68) dX1_join_1 2 hw1_2 ⟨by decide, by decide⟩ rfl (by decide) ?_
    refine x_lload_n (i := 1) (b := 69) dX1_join_68 rfl rfl rfl ?_
    refine x_lconst (z := 0) (b := 70) dX1_join_69 rfl (by decide) rfl ?_
    refine x_lcmp (b := 71) dX1_join_70 rfl ?_
    refine x_if_ne (tgt := 80) (b := 74) dX1_join_71 (by decide) rfl (fun hc => ?_) (fun hc => ?_)
    · replace hF := br_F hc hF
      exact x_dp (ls2 := [none, none, none, none, none]) trivial (hr_80  h hL hF)
    · replace hF := br_T hc hF
      refine x_lload_n (i := 3) (b := 75) dX1_join_74 rfl rfl rfl ?_
      refine x_lconst (z := 0) (b := 76) dX1_join_75 rfl (by decide) rfl ?_
      refine x_lcmp (b := 77) dX1_join_76 rfl ?_
      refine x_if_eq (tgt := 84) (b := 80) dX1_join_77 (by decide) rfl (fun hc => ?_) (fun hc => ?_)
      · replace hF := br_T hc hF
        refine x_lconst (z := 0) (b := 85) dX1_join_84 rfl (by decide) rfl ?_
        refine x_lreturn dX1_join_85 rfl ⟨Nat.le_refl _, Nat.le_refl _⟩ ?_
        cases hF
        exact ⟨rfl, rfl, hL⟩
      · replace hF := br_F hc hF
        exact x_dp (ls2 := [none, none, none, none, none]) trivial (hr_80  h hL hF)
  replace hF := br_F hw1_2 hF
  by_cases hw1_3 : x0 = 3
  · replace hF := br_T hw1_3 hF
    refine x_tableIn (tgt := 86) dX1_join_1 3 hw1_3 ⟨by decide, by decide⟩ rfl (by decide) ?_
    refine x_lload_n (i := 1) (b := 87) dX1_join_86 rfl rfl rfl ?_
    refine x_lconst (z := 0) (b := 88) dX1_join_87 rfl (by decide) rfl ?_
    refine x_lcmp (b := 89) dX1_join_88 rfl ?_
    refine x_if_eq (tgt := 102) (b := 92) dX1_join_89 (by decide) rfl (fun hc => ?_) (fun hc => ?_)
    · replace hF := br_T hc hF
      refine x_lconst (z := 0) (b := 103) dX1_join_102 rfl (by decide) rfl ?_
      refine x_lreturn dX1_join_103 rfl ⟨Nat.le_refl _, Nat.le_refl _⟩ ?_
      cases hF
      exact ⟨rfl, rfl, hL⟩
    · replace hF := br_F hc hF
      refine x_lload_n (i := 3) (b := 93) dX1_join_92 rfl rfl rfl ?_
      refine x_lconst (z := 0) (b := 94) dX1_join_93 rfl (by decide) rfl ?_
      refine x_lcmp (b := 95) dX1_join_94 rfl ?_
      refine x_if_eq (tgt := 102) (b := 98) dX1_join_95 (by decide) rfl (fun hc => ?_) (fun hc => ?_)
      · replace hF := br_T hc hF
        refine x_lconst (z := 0) (b := 103) dX1_join_102 rfl (by decide) rfl ?_
        refine x_lreturn dX1_join_103 rfl ⟨Nat.le_refl _, Nat.le_refl _⟩ ?_
        cases hF
        exact ⟨rfl, rfl, hL⟩
      · replace hF := br_F hc hF
        refine x_lconst (z := 1) (b := 99) dX1_join_98 rfl (by decide) rfl ?_
        refine x_goto (tgt := 103) dX1_join_99 (by decide) ?_
        refine x_lreturn dX1_join_103 rfl ⟨Nat.le_refl _, Nat.le_refl _⟩ ?_
        cases hF
        exact ⟨rfl, rfl, hL⟩
  replace hF := br_F hw1_3 hF
  by_cases hw1_5 : x0 = 5
  · replace hF := br_T hw1_5 hF
    refine x_tableIn (tgt := 104) dX1_join_1 5 hw1_5 ⟨by decide, by decide⟩ rfl (by decide) ?_
    refine x_lload_n (i := 1) (b := 105) dX1_join_104 rfl rfl rfl ?_
    refine x_lload_n (i := 3) (b := 106) dX1_join_105 rfl rfl rfl ?_
    refine x_lcmp (b := 107) dX1_join_106 rfl ?_
    refine x_if_ge (tgt := 114) (b := 110) dX1_join_107 (by decide) rfl (fun hc => ?_) (fun hc => ?_)
    · replace hF := br_T hc hF
      refine x_lconst (z := 0) (b := 115) dX1_join_114 rfl (by decide) rfl ?_
      refine x_lreturn dX1_join_115 rfl ⟨Nat.le_refl _, Nat.le_refl _⟩ ?_
      cases hF
      exact ⟨rfl, rfl, hL⟩
    · replace hF := br_F hc hF
      refine x_lconst (z := 1) (b := 111) dX1_join_110 rfl (by decide) rfl ?_
      refine x_goto (tgt := 115) dX1_join_111 (by decide) ?_
      refine x_lreturn dX1_join_115 rfl ⟨Nat.le_refl _, Nat.le_refl _⟩ ?_
      cases hF
      exact ⟨rfl, rfl, hL⟩
  replace hF := br_F hw1_5 hF
  by_cases hw1_6 : x0 = 6
  · replace hF := br_T hw1_6 hF
    refine x_tableIn (tgt := 116) dX1_join_1 6 hw1_6 ⟨by decide, by decide⟩ rfl (by decide) ?_
    refine x_lload_n (i := 1) (b := 117) dX1_join_116 rfl rfl rfl ?_
    refine x_lload_n (i := 3) (b := 118) dX1_join_117 rfl rfl rfl ?_
    refine x_lcmp (b := 119) dX1_join_118 rfl ?_
    refine x_if_gt (tgt := 126) (b := 122) dX1_join_119 (by decide) rfl (fun hc => ?_) (fun hc => ?_)
    · replace hF := br_T hc hF
      refine x_lconst (z := 0) (b := 127) dX1_join_126 rfl (by decide) rfl ?_
      refine x_lreturn dX1_join_127 rfl ⟨Nat.le_refl _, Nat.le_refl _⟩ ?_
      cases hF
      exact ⟨rfl, rfl, hL⟩
    · replace hF := br_F hc hF
      refine x_lconst (z := 1) (b := 123) dX1_join_122 rfl (by decide) rfl ?_
      refine x_goto (tgt := 127) dX1_join_123 (by decide) ?_
      refine x_lreturn dX1_join_127 rfl ⟨Nat.le_refl _, Nat.le_refl _⟩ ?_
      cases hF
      exact ⟨rfl, rfl, hL⟩
  replace hF := br_F hw1_6 hF
  by_cases hw1_7 : x0 = 7
  · replace hF := br_T hw1_7 hF
    refine x_tableIn (tgt := 128) dX1_join_1 7 hw1_7 ⟨by decide, by decide⟩ rfl (by decide) ?_
    refine x_lload_n (i := 1) (b := 129) dX1_join_128 rfl rfl rfl ?_
    refine x_lload_n (i := 3) (b := 130) dX1_join_129 rfl rfl rfl ?_
    refine x_lcmp (b := 131) dX1_join_130 rfl ?_
    refine x_if_ne (tgt := 138) (b := 134) dX1_join_131 (by decide) rfl (fun hc => ?_) (fun hc => ?_)
    · replace hF := br_F hc hF
      refine x_lconst (z := 0) (b := 139) dX1_join_138 rfl (by decide) rfl ?_
      refine x_lreturn dX1_join_139 rfl ⟨Nat.le_refl _, Nat.le_refl _⟩ ?_
      cases hF
      exact ⟨rfl, rfl, hL⟩
    · replace hF := br_T hc hF
      refine x_lconst (z := 1) (b := 135) dX1_join_134 rfl (by decide) rfl ?_
      refine x_goto (tgt := 139) dX1_join_135 (by decide) ?_
      refine x_lreturn dX1_join_139 rfl ⟨Nat.le_refl _, Nat.le_refl _⟩ ?_
      cases hF
      exact ⟨rfl, rfl, hL⟩
  replace hF := br_F hw1_7 hF
  by_cases hw1_8 : x0 = 8
  · replace hF := br_T hw1_8 hF
    refine x_tableIn (tgt := 140) dX1_join_1 8 hw1_8 ⟨by decide, by decide⟩ rfl (by decide) ?_
    refine x_lload_n (i := 1) (b := 141) dX1_join_140 rfl rfl rfl ?_
    refine x_lload_n (i := 3) (b := 142) dX1_join_141 rfl rfl rfl ?_
    refine x_lcmp (b := 143) dX1_join_142 rfl ?_
    refine x_if_eq (tgt := 150) (b := 146) dX1_join_143 (by decide) rfl (fun hc => ?_) (fun hc => ?_)
    · replace hF := br_T hc hF
      refine x_lconst (z := 0) (b := 151) dX1_join_150 rfl (by decide) rfl ?_
      refine x_lreturn dX1_join_151 rfl ⟨Nat.le_refl _, Nat.le_refl _⟩ ?_
      cases hF
      exact ⟨rfl, rfl, hL⟩
    · replace hF := br_F hc hF
      refine x_lconst (z := 1) (b := 147) dX1_join_146 rfl (by decide) rfl ?_
      refine x_goto (tgt := 151) dX1_join_147 (by decide) ?_
      refine x_lreturn dX1_join_151 rfl ⟨Nat.le_refl _, Nat.le_refl _⟩ ?_
      cases hF
      exact ⟨rfl, rfl, hL⟩
  replace hF := br_F hw1_8 hF
  by_cases hw1_9 : x0 = 9
  · replace hF := br_T hw1_9 hF
    refine x_tableIn (tgt := 152) dX1_join_1 9 hw1_9 ⟨by decide, by decide⟩ rfl (by decide) ?_
    refine x_lload_n (i := 1) (b := 153) dX1_join_152 rfl rfl rfl ?_
    refine x_lload_n (i := 3) (b := 154) dX1_join_153 rfl rfl rfl ?_
    refine x_lcmp (b := 155) dX1_join_154 rfl ?_
    refine x_if_lt (tgt := 162) (b := 158) dX1_join_155 (by decide) rfl (fun hc => ?_) (fun hc => ?_)
    · replace hF := br_T hc hF
      refine x_lconst (z := 0) (b := 163) dX1_join_162 rfl (by decide) rfl ?_
      refine x_lreturn dX1_join_163 rfl ⟨Nat.le_refl _, Nat.le_refl _⟩ ?_
      cases hF
      exact ⟨rfl, rfl, hL⟩
    · replace hF := br_F hc hF
      refine x_lconst (z := 1) (b := 159) dX1_join_158 rfl (by decide) rfl ?_
      refine x_goto (tgt := 163) dX1_join_159 (by decide) ?_
      refine x_lreturn dX1_join_163 rfl ⟨Nat.le_refl _, Nat.le_refl _⟩ ?_
      cases hF
      exact ⟨rfl, rfl, hL⟩
  replace hF := br_F hw1_9 hF
  by_cases hw1_10 : x0 = 10
  · replace hF := br_T hw1_10 hF
    refine x_tableIn (tgt := 164) dX1_join_1 10 hw1_10 ⟨by decide, by decide⟩ rfl (by decide) ?_
    refine x_lload_n (i := 1) (b := 165) dX1_join_164 rfl rfl rfl ?_
    refine x_lload_n (i := 3) (b := 166) dX1_join_165 rfl rfl rfl ?_
    refine x_lcmp (b := 167) dX1_join_166 rfl ?_
    refine x_if_le (tgt := 174) (b := 170) dX1_join_167 (by decide) rfl (fun hc => ?_) (fun hc => ?_)
    · replace hF := br_T hc hF
      refine x_lconst (z := 0) (b := 175) dX1_join_174 rfl (by decide) rfl ?_
      refine x_lreturn dX1_join_175 rfl ⟨Nat.le_refl _, Nat.le_refl _⟩ ?_
      cases hF
      exact ⟨rfl, rfl, hL⟩
    · replace hF := br_F hc hF
      refine x_lconst (z := 1) (b := 171) dX1_join_170 rfl (by decide) rfl ?_
      refine x_goto (tgt := 175) dX1_join_171 (by decide) ?_
      refine x_lreturn dX1_join_175 rfl ⟨Nat.le_refl _, Nat.le_refl _⟩ ?_
      cases hF
      exact ⟨rfl, rfl, hL⟩
  replace hF := br_F hw1_10 hF
  by_cases hw1_11 : x0 = 11
  · replace hF := br_T hw1_11 hF
    refine x_tableIn (tgt := 176) dX1_join_1 11 hw1_11 ⟨by decide, by decide⟩ rfl (by decide) ?_
    refine x_lload_n (i := 1) (b := 177) dX1_join_176 rfl rfl rfl ?_
    refine x_lload_n (i := 3) (b := 178) dX1_join_177 rfl rfl rfl ?_
    obtain ⟨hs, hF⟩ := ck_e hF
    refine x_ladd (b := 179) dX1_join_178 hs rfl ?_
    refine x_lreturn dX1_join_179 rfl ⟨Nat.le_refl _, Nat.le_refl _⟩ ?_
    cases hF
    exact ⟨rfl, rfl, hL⟩
  replace hF := br_F hw1_11 hF
  by_cases hw1_12 : x0 = 12
  · replace hF := br_T hw1_12 hF
    refine x_tableIn (tgt := 180) dX1_join_1 12 hw1_12 ⟨by decide, by decide⟩ rfl (by decide) ?_
    refine x_lload_n (i := 1) (b := 181) dX1_join_180 rfl rfl rfl ?_
    refine x_lload_n (i := 3) (b := 182) dX1_join_181 rfl rfl rfl ?_
    obtain ⟨hs, hF⟩ := ck_e hF
    refine x_lsub (b := 183) dX1_join_182 hs rfl ?_
    refine x_lreturn dX1_join_183 rfl ⟨Nat.le_refl _, Nat.le_refl _⟩ ?_
    cases hF
    exact ⟨rfl, rfl, hL⟩
  replace hF := br_F hw1_12 hF
  by_cases hw1_13 : x0 = 13
  · replace hF := br_T hw1_13 hF
    refine x_tableIn (tgt := 184) dX1_join_1 13 hw1_13 ⟨by decide, by decide⟩ rfl (by decide) ?_
    refine x_lload_n (i := 1) (b := 185) dX1_join_184 rfl rfl rfl ?_
    refine x_lconst (z := 0) (b := 186) dX1_join_185 rfl (by decide) rfl ?_
    refine x_lcmp (b := 187) dX1_join_186 rfl ?_
    refine x_if_eq (tgt := 212) (b := 190) dX1_join_187 (by decide) rfl (fun hc => ?_) (fun hc => ?_)
    · replace hF := br_T hc hF
      refine x_lload_n (i := 1) (b := 213) dX1_join_212 rfl rfl rfl ?_
      refine x_lload_n (i := 3) (b := 214) dX1_join_213 rfl rfl rfl ?_
      obtain ⟨hs, hF⟩ := ck_e hF
      refine x_lmul (b := 215) dX1_join_214 hs rfl ?_
      refine x_lreturn dX1_join_215 rfl ⟨Nat.le_refl _, Nat.le_refl _⟩ ?_
      cases hF
      exact ⟨rfl, rfl, hL⟩
    · replace hF := br_F hc hF
      refine x_lload_n (i := 3) (b := 191) dX1_join_190 rfl rfl rfl ?_
      obtain ⟨hs, hF⟩ := ck_e hF
      refine x_labs (b := 194) dX1_join_191 mw_X1_43 (Nat.le_of_ble_eq_true rfl) ⟨Nat.le_refl _, Nat.le_refl _⟩ hs rfl ?_
      refine x_ldc2 (z := 1000000000000) (b := 197) dX1_join_194 kw_1131 (by decide) rfl ?_
      refine x_lload_n (i := 1) (b := 198) dX1_join_197 rfl rfl rfl ?_
      obtain ⟨hs, hF⟩ := ck_e hF
      refine x_labs (b := 201) dX1_join_198 mw_X1_43 (Nat.le_of_ble_eq_true rfl) ⟨Nat.le_refl _, Nat.le_refl _⟩ hs rfl ?_
      obtain ⟨hs, hF⟩ := ck_e hF
      refine x_ldiv (b := 202) dX1_join_201 hs.1 hs.2 rfl ?_
      refine x_lcmp (b := 203) dX1_join_202 rfl ?_
      refine x_if_le (tgt := 212) (b := 206) dX1_join_203 (by decide) rfl (fun hc => ?_) (fun hc => ?_)
      · replace hF := br_T hc hF
        refine x_lload_n (i := 1) (b := 213) dX1_join_212 rfl rfl rfl ?_
        refine x_lload_n (i := 3) (b := 214) dX1_join_213 rfl rfl rfl ?_
        obtain ⟨hs, hF⟩ := ck_e hF
        refine x_lmul (b := 215) dX1_join_214 hs rfl ?_
        refine x_lreturn dX1_join_215 rfl ⟨Nat.le_refl _, Nat.le_refl _⟩ ?_
        cases hF
        exact ⟨rfl, rfl, hL⟩
      · replace hF := br_F hc hF
        refine x_ldc2 (z := (-9223372036854775808)) (b := 209) dX1_join_206 kw_1124 (by decide) rfl ?_
        refine x_goto (tgt := 215) dX1_join_209 (by decide) ?_
        refine x_lreturn dX1_join_215 rfl ⟨Nat.le_refl _, Nat.le_refl _⟩ ?_
        cases hF
        exact ⟨rfl, rfl, hL⟩
  replace hF := br_F hw1_13 hF
  by_cases hw1_14 : x0 = 14
  · replace hF := br_T hw1_14 hF
    refine x_tableIn (tgt := 216) dX1_join_1 14 hw1_14 ⟨by decide, by decide⟩ rfl (by decide) ?_
    refine x_lload_n (i := 3) (b := 217) dX1_join_216 rfl rfl rfl ?_
    refine x_lconst (z := 0) (b := 218) dX1_join_217 rfl (by decide) rfl ?_
    refine x_lcmp (b := 219) dX1_join_218 rfl ?_
    refine x_if_ne (tgt := 228) (b := 222) dX1_join_219 (by decide) rfl (fun hc => ?_) (fun hc => ?_)
    · replace hF := br_F hc hF
      refine x_lload_n (i := 1) (b := 229) dX1_join_228 rfl rfl rfl ?_
      refine x_lload_n (i := 3) (b := 230) dX1_join_229 rfl rfl rfl ?_
      obtain ⟨hs, hF⟩ := ck_e hF
      refine x_ldiv (b := 231) dX1_join_230 hs.1 hs.2 rfl ?_
      refine x_lreturn dX1_join_231 rfl ⟨Nat.le_refl _, Nat.le_refl _⟩ ?_
      cases hF
      exact ⟨rfl, rfl, hL⟩
    · replace hF := br_T hc hF
      refine x_ldc2 (z := (-9223372036854775808)) (b := 225) dX1_join_222 kw_1124 (by decide) rfl ?_
      refine x_goto (tgt := 231) dX1_join_225 (by decide) ?_
      refine x_lreturn dX1_join_231 rfl ⟨Nat.le_refl _, Nat.le_refl _⟩ ?_
      cases hF
      exact ⟨rfl, rfl, hL⟩
  replace hF := br_F hw1_14 hF
  rcases (show x0 = 4 ∨ (x0 < 2 ∨ 14 < x0) by omega) with hw | hw
  · refine x_tableIn (tgt := 232) dX1_join_1 4 hw ⟨by decide, by decide⟩ rfl (by decide) ?_
    refine x_ldc2 (z := (-9223372036854775808)) (b := 235) dX1_join_232 kw_1124 (by decide) rfl ?_
    refine x_lreturn dX1_join_235 rfl ⟨Nat.le_refl _, Nat.le_refl _⟩ ?_
    cases hF
    exact ⟨rfl, rfl, hL⟩
  · refine x_tableOut (tgt := 232) dX1_join_1 hw (by decide) ?_
    refine x_ldc2 (z := (-9223372036854775808)) (b := 235) dX1_join_232 kw_1124 (by decide) rfl ?_
    refine x_lreturn dX1_join_235 rfl ⟨Nat.le_refl _, Nat.le_refl _⟩ ?_
    cases hF
    exact ⟨rfl, rfl, hL⟩
set_option maxHeartbeats 4000000 in
set_option maxRecDepth 100000 in
theorem t_X1_join_1 (E : xE) (d : Nat) (rec : Rk) (r : Int × Hp) (h : Hp) (hL : Lay h) (hF : b_X1_join_1 rec  h = some r) : X E mX1_join (d + 1) (0, 0) (0, 0) 80 [none, none, none, none, none] [] h (PoL r) := by
  unfold b_X1_join_1 at hF
  refine x_lconst (z := 1) (b := 81) dX1_join_80 rfl (by decide) rfl ?_
  refine x_goto (tgt := 85) dX1_join_81 (by decide) ?_
  refine x_lreturn dX1_join_85 rfl ⟨Nat.le_refl _, Nat.le_refl _⟩ ?_
  cases hF
  exact ⟨rfl, rfl, hL⟩
set_option maxHeartbeats 4000000 in
set_option maxRecDepth 100000 in
theorem u_X1_join (E : xE) (d : Nat) (r : Int × Hp) : ∀ n : Nat, (∀ (x0 x1 x3 : Int) (h : Hp), Lay h → g_X1_join n 0 [x0, x1, x3] h = some r → X E mX1_join (d + 1) (0, 0) (0, 0) 0 [some (xi x0), some (xl x1), none, some (xl x3), none] [] h (PoL r)) ∧ (∀ (h : Hp), Lay h → g_X1_join n 1 [] h = some r → X E mX1_join (d + 1) (0, 0) (0, 0) 80 [none, none, none, none, none] [] h (PoL r)) := by
  intro n
  induction n with
  | zero => exact ⟨fun _ _ _ _ _ hF => no_e (r := r) hF, fun _ _ hF => no_e (r := r) hF⟩
  | succ n ih => exact ⟨fun x0 x1 x3 h hL hF => t_X1_join_0 E d (g_X1_join n) r ih.2 x0 x1 x3 h hL hF, fun h hL hF => t_X1_join_1 E d (g_X1_join n) r   h hL hF⟩
theorem c_X1_join (d : Nat) (x0 x1 x3 : Int) (h : Hp) (r : Int × Hp) (hL : Lay h) (hF : f_X1_join x0 x1 x3 h = some r) : Sp mX1_join (d + 1) (0, 0) [xi x0, xl x1, xl x3] h (PoL r) :=
  sp_of (by decide) rfl (Nat.le_of_ble_eq_true rfl) (ls := [some (xi x0), some (xl x1), none, some (xl x3), none]) rfl (fun E _ => (u_X1_join E d r FU).1 x0 x1 x3 h hL hF)
theorem dX1_work_0 : decode cX1_work 0 = .ok (.iconst 0, 1) := by decide +kernel
theorem dX1_work_1 : decode cX1_work 1 = .ok (.istore_n 3, 1) := by decide +kernel
theorem dX1_work_2 : decode cX1_work 2 = .ok (.iconst 0, 1) := by decide +kernel
theorem dX1_work_3 : decode cX1_work 3 = .ok (.iload_n 1, 1) := by decide +kernel
theorem dX1_work_4 : decode cX1_work 4 = .ok (.invokestatic 27, 3) := by decide +kernel
theorem dX1_work_7 : decode cX1_work 7 = .ok (.istore 4, 2) := by decide +kernel
theorem dX1_work_9 : decode cX1_work 9 = .ok (.iload 4, 2) := by decide +kernel
theorem dX1_work_11 : decode cX1_work 11 = .ok (.iload_n 2, 1) := by decide +kernel
theorem dX1_work_12 : decode cX1_work 12 = .ok (.if_icmp .ge 206, 3) := by decide +kernel
theorem dX1_work_15 : decode cX1_work 15 = .ok (.iload 4, 2) := by decide +kernel
theorem dX1_work_17 : decode cX1_work 17 = .ok (.bipush 64, 2) := by decide +kernel
theorem dX1_work_19 : decode cX1_work 19 = .ok (.if_icmp .ge 199, 3) := by decide +kernel
theorem dX1_work_22 : decode cX1_work 22 = .ok (.aload_n 0, 1) := by decide +kernel
theorem dX1_work_23 : decode cX1_work 23 = .ok (.getfield 9, 3) := by decide +kernel
theorem dX1_work_26 : decode cX1_work 26 = .ok (.iload 4, 2) := by decide +kernel
theorem dX1_work_28 : decode cX1_work 28 = .ok (.iaload, 1) := by decide +kernel
theorem dX1_work_29 : decode cX1_work 29 = .ok (.istore 5, 2) := by decide +kernel
theorem dX1_work_31 : decode cX1_work 31 = .ok (.iload 5, 2) := by decide +kernel
theorem dX1_work_33 : decode cX1_work 33 = .ok (.ifCond .eq 9, 3) := by decide +kernel
theorem dX1_work_36 : decode cX1_work 36 = .ok (.iload 5, 2) := by decide +kernel
theorem dX1_work_38 : decode cX1_work 38 = .ok (.iconst 1, 1) := by decide +kernel
theorem dX1_work_39 : decode cX1_work 39 = .ok (.if_icmp .ne 65, 3) := by decide +kernel
theorem dX1_work_42 : decode cX1_work 42 = .ok (.iload_n 3, 1) := by decide +kernel
theorem dX1_work_43 : decode cX1_work 43 = .ok (.bipush 64, 2) := by decide +kernel
theorem dX1_work_45 : decode cX1_work 45 = .ok (.if_icmp .lt 7, 3) := by decide +kernel
theorem dX1_work_48 : decode cX1_work 48 = .ok (.ldc2_w 33, 3) := by decide +kernel
theorem dX1_work_51 : decode cX1_work 51 = .ok (.lreturn, 1) := by decide +kernel
theorem dX1_work_52 : decode cX1_work 52 = .ok (.aload_n 0, 1) := by decide +kernel
theorem dX1_work_53 : decode cX1_work 53 = .ok (.getfield 13, 3) := by decide +kernel
theorem dX1_work_56 : decode cX1_work 56 = .ok (.iload 4, 2) := by decide +kernel
theorem dX1_work_58 : decode cX1_work 58 = .ok (.iaload, 1) := by decide +kernel
theorem dX1_work_59 : decode cX1_work 59 = .ok (.istore 6, 2) := by decide +kernel
theorem dX1_work_61 : decode cX1_work 61 = .ok (.aload_n 0, 1) := by decide +kernel
theorem dX1_work_62 : decode cX1_work 62 = .ok (.getfield 24, 3) := by decide +kernel
theorem dX1_work_65 : decode cX1_work 65 = .ok (.iload_n 3, 1) := by decide +kernel
theorem dX1_work_66 : decode cX1_work 66 = .ok (.iload 5, 2) := by decide +kernel
theorem dX1_work_68 : decode cX1_work 68 = .ok (.iconst 1, 1) := by decide +kernel
theorem dX1_work_69 : decode cX1_work 69 = .ok (.if_icmp .ne 25, 3) := by decide +kernel
theorem dX1_work_72 : decode cX1_work 72 = .ok (.iload 6, 2) := by decide +kernel
theorem dX1_work_74 : decode cX1_work 74 = .ok (.ifCond .lt 20, 3) := by decide +kernel
theorem dX1_work_77 : decode cX1_work 77 = .ok (.iload 6, 2) := by decide +kernel
theorem dX1_work_79 : decode cX1_work 79 = .ok (.bipush 7, 2) := by decide +kernel
theorem dX1_work_81 : decode cX1_work 81 = .ok (.if_icmp .ge 13, 3) := by decide +kernel
theorem dX1_work_84 : decode cX1_work 84 = .ok (.aload_n 0, 1) := by decide +kernel
theorem dX1_work_85 : decode cX1_work 85 = .ok (.getfield 20, 3) := by decide +kernel
theorem dX1_work_88 : decode cX1_work 88 = .ok (.iload 6, 2) := by decide +kernel
theorem dX1_work_90 : decode cX1_work 90 = .ok (.laload, 1) := by decide +kernel
theorem dX1_work_91 : decode cX1_work 91 = .ok (.goto 6, 3) := by decide +kernel
theorem dX1_work_94 : decode cX1_work 94 = .ok (.iload 6, 2) := by decide +kernel
theorem dX1_work_96 : decode cX1_work 96 = .ok (.i2l, 1) := by decide +kernel
theorem dX1_work_97 : decode cX1_work 97 = .ok (.lastore, 1) := by decide +kernel
theorem dX1_work_98 : decode cX1_work 98 = .ok (.iinc 3 1, 3) := by decide +kernel
theorem dX1_work_101 : decode cX1_work 101 = .ok (.goto 111, 3) := by decide +kernel
theorem dX1_work_104 : decode cX1_work 104 = .ok (.iload 5, 2) := by decide +kernel
theorem dX1_work_106 : decode cX1_work 106 = .ok (.iconst 4, 1) := by decide +kernel
theorem dX1_work_107 : decode cX1_work 107 = .ok (.if_icmp .ne 37, 3) := by decide +kernel
theorem dX1_work_110 : decode cX1_work 110 = .ok (.iload_n 3, 1) := by decide +kernel
theorem dX1_work_111 : decode cX1_work 111 = .ok (.iconst 1, 1) := by decide +kernel
theorem dX1_work_112 : decode cX1_work 112 = .ok (.if_icmp .lt 32, 3) := by decide +kernel
theorem dX1_work_115 : decode cX1_work 115 = .ok (.aload_n 0, 1) := by decide +kernel
theorem dX1_work_116 : decode cX1_work 116 = .ok (.getfield 24, 3) := by decide +kernel
theorem dX1_work_119 : decode cX1_work 119 = .ok (.iload_n 3, 1) := by decide +kernel
theorem dX1_work_120 : decode cX1_work 120 = .ok (.iconst 1, 1) := by decide +kernel
theorem dX1_work_121 : decode cX1_work 121 = .ok (.isub, 1) := by decide +kernel
theorem dX1_work_122 : decode cX1_work 122 = .ok (.aload_n 0, 1) := by decide +kernel
theorem dX1_work_123 : decode cX1_work 123 = .ok (.getfield 24, 3) := by decide +kernel
theorem dX1_work_126 : decode cX1_work 126 = .ok (.iload_n 3, 1) := by decide +kernel
theorem dX1_work_127 : decode cX1_work 127 = .ok (.iconst 1, 1) := by decide +kernel
theorem dX1_work_128 : decode cX1_work 128 = .ok (.isub, 1) := by decide +kernel
theorem dX1_work_129 : decode cX1_work 129 = .ok (.laload, 1) := by decide +kernel
theorem dX1_work_130 : decode cX1_work 130 = .ok (.lconst 0, 1) := by decide +kernel
theorem dX1_work_131 : decode cX1_work 131 = .ok (.lcmp, 1) := by decide +kernel
theorem dX1_work_132 : decode cX1_work 132 = .ok (.ifCond .ne 7, 3) := by decide +kernel
theorem dX1_work_135 : decode cX1_work 135 = .ok (.lconst 1, 1) := by decide +kernel
theorem dX1_work_136 : decode cX1_work 136 = .ok (.goto 4, 3) := by decide +kernel
theorem dX1_work_139 : decode cX1_work 139 = .ok (.lconst 0, 1) := by decide +kernel
theorem dX1_work_140 : decode cX1_work 140 = .ok (.lastore, 1) := by decide +kernel
theorem dX1_work_141 : decode cX1_work 141 = .ok (.goto 71, 3) := by decide +kernel
theorem dX1_work_144 : decode cX1_work 144 = .ok (.iload_n 3, 1) := by decide +kernel
theorem dX1_work_145 : decode cX1_work 145 = .ok (.iconst 2, 1) := by decide +kernel
theorem dX1_work_146 : decode cX1_work 146 = .ok (.if_icmp .lt 62, 3) := by decide +kernel
theorem dX1_work_149 : decode cX1_work 149 = .ok (.iinc 3 (-1), 3) := by decide +kernel
theorem dX1_work_152 : decode cX1_work 152 = .ok (.iload 5, 2) := by decide +kernel
theorem dX1_work_154 : decode cX1_work 154 = .ok (.aload_n 0, 1) := by decide +kernel
theorem dX1_work_155 : decode cX1_work 155 = .ok (.getfield 24, 3) := by decide +kernel
theorem dX1_work_158 : decode cX1_work 158 = .ok (.iload_n 3, 1) := by decide +kernel
theorem dX1_work_159 : decode cX1_work 159 = .ok (.iconst 1, 1) := by decide +kernel
theorem dX1_work_160 : decode cX1_work 160 = .ok (.isub, 1) := by decide +kernel
theorem dX1_work_161 : decode cX1_work 161 = .ok (.laload, 1) := by decide +kernel
theorem dX1_work_162 : decode cX1_work 162 = .ok (.aload_n 0, 1) := by decide +kernel
theorem dX1_work_163 : decode cX1_work 163 = .ok (.getfield 24, 3) := by decide +kernel
theorem dX1_work_166 : decode cX1_work 166 = .ok (.iload_n 3, 1) := by decide +kernel
theorem dX1_work_167 : decode cX1_work 167 = .ok (.laload, 1) := by decide +kernel
theorem dX1_work_168 : decode cX1_work 168 = .ok (.invokestatic 35, 3) := by decide +kernel
theorem dX1_work_171 : decode cX1_work 171 = .ok (.lstore 6, 2) := by decide +kernel
theorem dX1_work_173 : decode cX1_work 173 = .ok (.lload 6, 2) := by decide +kernel
theorem dX1_work_175 : decode cX1_work 175 = .ok (.ldc2_w 39, 3) := by decide +kernel
theorem dX1_work_178 : decode cX1_work 178 = .ok (.lcmp, 1) := by decide +kernel
theorem dX1_work_179 : decode cX1_work 179 = .ok (.ifCond .gt 12, 3) := by decide +kernel
theorem dX1_work_182 : decode cX1_work 182 = .ok (.lload 6, 2) := by decide +kernel
theorem dX1_work_184 : decode cX1_work 184 = .ok (.ldc2_w 41, 3) := by decide +kernel
theorem dX1_work_187 : decode cX1_work 187 = .ok (.lcmp, 1) := by decide +kernel
theorem dX1_work_188 : decode cX1_work 188 = .ok (.ifCond .ge 7, 3) := by decide +kernel
theorem dX1_work_191 : decode cX1_work 191 = .ok (.ldc2_w 33, 3) := by decide +kernel
theorem dX1_work_194 : decode cX1_work 194 = .ok (.lreturn, 1) := by decide +kernel
theorem dX1_work_195 : decode cX1_work 195 = .ok (.aload_n 0, 1) := by decide +kernel
theorem dX1_work_196 : decode cX1_work 196 = .ok (.getfield 24, 3) := by decide +kernel
theorem dX1_work_199 : decode cX1_work 199 = .ok (.iload_n 3, 1) := by decide +kernel
theorem dX1_work_200 : decode cX1_work 200 = .ok (.iconst 1, 1) := by decide +kernel
theorem dX1_work_201 : decode cX1_work 201 = .ok (.isub, 1) := by decide +kernel
theorem dX1_work_202 : decode cX1_work 202 = .ok (.lload 6, 2) := by decide +kernel
theorem dX1_work_204 : decode cX1_work 204 = .ok (.lastore, 1) := by decide +kernel
theorem dX1_work_205 : decode cX1_work 205 = .ok (.goto 7, 3) := by decide +kernel
theorem dX1_work_208 : decode cX1_work 208 = .ok (.ldc2_w 33, 3) := by decide +kernel
theorem dX1_work_211 : decode cX1_work 211 = .ok (.lreturn, 1) := by decide +kernel
theorem dX1_work_212 : decode cX1_work 212 = .ok (.iinc 4 1, 3) := by decide +kernel
theorem dX1_work_215 : decode cX1_work 215 = .ok (.goto (-206), 3) := by decide +kernel
theorem dX1_work_218 : decode cX1_work 218 = .ok (.iload_n 3, 1) := by decide +kernel
theorem dX1_work_219 : decode cX1_work 219 = .ok (.iconst 1, 1) := by decide +kernel
theorem dX1_work_220 : decode cX1_work 220 = .ok (.if_icmp .ne 12, 3) := by decide +kernel
theorem dX1_work_223 : decode cX1_work 223 = .ok (.aload_n 0, 1) := by decide +kernel
theorem dX1_work_224 : decode cX1_work 224 = .ok (.getfield 24, 3) := by decide +kernel
theorem dX1_work_227 : decode cX1_work 227 = .ok (.iconst 0, 1) := by decide +kernel
theorem dX1_work_228 : decode cX1_work 228 = .ok (.laload, 1) := by decide +kernel
theorem dX1_work_229 : decode cX1_work 229 = .ok (.goto 6, 3) := by decide +kernel
theorem dX1_work_232 : decode cX1_work 232 = .ok (.ldc2_w 33, 3) := by decide +kernel
theorem dX1_work_235 : decode cX1_work 235 = .ok (.lreturn, 1) := by decide +kernel
noncomputable def b_X1_work_0 (rec : Rk) (x0 x1 x2 : Int) (h : Hp) : Option (Int × Hp) :=
  lt (max 0 x1) fun z1 =>
  rec 1 [x0, x2, 0, z1] h
noncomputable def b_X1_work_1 (rec : Rk) (x0 x2 x3 x4 : Int) (h : Hp) : Option (Int × Hp) :=
  if x2 ≤ x4 then (
    rec 8 [x0, x3] h
  ) else (
    if 64 ≤ x4 then (
      rec 8 [x0, x3] h
    ) else (
      ck (0 ≤ x4 ∧ x4 < 64) <|
      lt (gI h 25 x0 x4) fun z1 =>
      if z1 = 0 then (
        rec 2 [x0, x2, x3, x4, z1] h
      ) else (
        if z1 = 1 then (
          rec 2 [x0, x2, x3, x4, z1] h
        ) else (
          if z1 = 4 then (
            if x3 < 1 then (
              rec 6 [x0, x2, x3, x4, z1] h
            ) else (
              ck (-2147483648 ≤ x3 - 1 ∧ x3 - 1 < 2147483648) <|
              ck (-2147483648 ≤ x3 - 1 ∧ x3 - 1 < 2147483648) <|
              ck (0 ≤ (x3 - 1) ∧ (x3 - 1) < 64) <|
              if (lc (gI h 28 x0 (x3 - 1)) 0) = 0 then (
                rec 5 [x0, x2, x3, x4, 1, x3 - 1, x0] h
              ) else (
                rec 5 [x0, x2, x3, x4, 0, x3 - 1, x0] h
              )
            )
          ) else (
            rec 6 [x0, x2, x3, x4, z1] h
          )
        )
      )
    )
  )
noncomputable def b_X1_work_2 (rec : Rk) (x0 x2 x3 x4 x5 : Int) (h : Hp) : Option (Int × Hp) :=
  if x3 < 64 then (
    ck (0 ≤ x4 ∧ x4 < 64) <|
    lt (gI h 26 x0 x4) fun z1 =>
    if x5 = 1 then (
      if z1 < 0 then (
        rec 3 [x0, x2, x3, x4, z1, x3, x0] h
      ) else (
        if 7 ≤ z1 then (
          rec 3 [x0, x2, x3, x4, z1, x3, x0] h
        ) else (
          ck (0 ≤ z1 ∧ z1 < 7) <|
          rec 4 [x0, x2, x3, x4, gI h 27 x0 z1, x3, x0] h
        )
      )
    ) else (
      rec 3 [x0, x2, x3, x4, z1, x3, x0] h
    )
  ) else (
    some ((-9223372036854775808), h)
  )
noncomputable def b_X1_work_3 (rec : Rk) (x0 x2 x3 x4 x6 y0 y1 : Int) (h : Hp) : Option (Int × Hp) :=
  rec 4 [x0, x2, x3, x4, x6, y0, y1] h
noncomputable def b_X1_work_4 (rec : Rk) (x0 x2 x3 x4 y0 y1 y2 : Int) (h : Hp) : Option (Int × Hp) :=
  ck (0 ≤ y1 ∧ y1 < 64) <|
  lt (sI h 28 y2 y1 y0) fun h1 =>
  ck (-2147483648 ≤ x3 + 1 ∧ x3 + 1 < 2147483648) <|
  rec 7 [x0, x2, x3 + 1, x4] h1
noncomputable def b_X1_work_5 (rec : Rk) (x0 x2 x3 x4 y0 y1 y2 : Int) (h : Hp) : Option (Int × Hp) :=
  ck (0 ≤ y1 ∧ y1 < 64) <|
  lt (sI h 28 y2 y1 y0) fun h1 =>
  rec 7 [x0, x2, x3, x4] h1
noncomputable def b_X1_work_6 (rec : Rk) (x0 x2 x3 x4 x5 : Int) (h : Hp) : Option (Int × Hp) :=
  if x3 < 2 then (
    some ((-9223372036854775808), h)
  ) else (
    ck (-2147483648 ≤ x3 + (-1) ∧ x3 + (-1) < 2147483648) <|
    ck (-2147483648 ≤ (x3 + (-1)) - 1 ∧ (x3 + (-1)) - 1 < 2147483648) <|
    ck (0 ≤ ((x3 + (-1)) - 1) ∧ ((x3 + (-1)) - 1) < 64) <|
    ck (0 ≤ (x3 + (-1)) ∧ (x3 + (-1)) < 64) <|
    bd (f_X1_join x5 (gI h 28 x0 ((x3 + (-1)) - 1)) (gI h 28 x0 (x3 + (-1))) h) fun v1 h2 =>
    if 0 < (lc v1 1000000000000) then (
      some ((-9223372036854775808), h2)
    ) else (
      if 0 ≤ (lc v1 (-1000000000000)) then (
        ck (-2147483648 ≤ (x3 + (-1)) - 1 ∧ (x3 + (-1)) - 1 < 2147483648) <|
        ck (0 ≤ ((x3 + (-1)) - 1) ∧ ((x3 + (-1)) - 1) < 64) <|
        lt (sI h2 28 x0 ((x3 + (-1)) - 1) v1) fun h3 =>
        rec 7 [x0, x2, x3 + (-1), x4] h3
      ) else (
        some ((-9223372036854775808), h2)
      )
    )
  )
noncomputable def b_X1_work_7 (rec : Rk) (x0 x2 x3 x4 : Int) (h : Hp) : Option (Int × Hp) :=
  ck (-2147483648 ≤ x4 + 1 ∧ x4 + 1 < 2147483648) <|
  rec 1 [x0, x2, x3, x4 + 1] h
noncomputable def b_X1_work_8 (rec : Rk) (x0 x3 : Int) (h : Hp) : Option (Int × Hp) :=
  if x3 = 1 then (
    ck (0 ≤ (0 : Int) ∧ (0 : Int) < 64) <|
    some (gI h 28 x0 0, h)
  ) else (
    some ((-9223372036854775808), h)
  )
noncomputable def g_X1_work (n : Nat) : Rk := Nat.rec (motive := fun _ => Rk) (fun _ _ _ => none) (fun _ rec k l h => if k = 0 then b_X1_work_0 rec (l.getD 0 0) (l.getD 1 0) (l.getD 2 0) h else if k = 1 then b_X1_work_1 rec (l.getD 0 0) (l.getD 1 0) (l.getD 2 0) (l.getD 3 0) h else if k = 2 then b_X1_work_2 rec (l.getD 0 0) (l.getD 1 0) (l.getD 2 0) (l.getD 3 0) (l.getD 4 0) h else if k = 3 then b_X1_work_3 rec (l.getD 0 0) (l.getD 1 0) (l.getD 2 0) (l.getD 3 0) (l.getD 4 0) (l.getD 5 0) (l.getD 6 0) h else if k = 4 then b_X1_work_4 rec (l.getD 0 0) (l.getD 1 0) (l.getD 2 0) (l.getD 3 0) (l.getD 4 0) (l.getD 5 0) (l.getD 6 0) h else if k = 5 then b_X1_work_5 rec (l.getD 0 0) (l.getD 1 0) (l.getD 2 0) (l.getD 3 0) (l.getD 4 0) (l.getD 5 0) (l.getD 6 0) h else if k = 6 then b_X1_work_6 rec (l.getD 0 0) (l.getD 1 0) (l.getD 2 0) (l.getD 3 0) (l.getD 4 0) h else if k = 7 then b_X1_work_7 rec (l.getD 0 0) (l.getD 1 0) (l.getD 2 0) (l.getD 3 0) h else if k = 8 then b_X1_work_8 rec (l.getD 0 0) (l.getD 1 0) h else none) n
noncomputable def f_X1_work (x0 x1 x2 : Int) (h : Hp) : Option (Int × Hp) := g_X1_work FU 0 [x0, x1, x2] h
set_option maxHeartbeats 4000000 in
set_option maxRecDepth 100000 in
theorem t_X1_work_0 (E : xE) (d : Nat) (rec : Rk) (r : Int × Hp) (hr_9 : ∀ (x0 x2 x3 x4 : Int) (h : Hp), Lay h → rec 1 [x0, x2, x3, x4] h = some r → X E mX1_work (d + 2) (0, 0) (0, 0) 9 [some (xr 1 x0), none, some (xi x2), some (xi x3), some (xi x4), none, none, none] [] h (PoL r)) (x0 x1 x2 : Int) (h : Hp) (hL : Lay h) (hF : b_X1_work_0 rec x0 x1 x2 h = some r) : X E mX1_work (d + 2) (0, 0) (0, 0) 0 [some (xr 1 x0), some (xi x1), some (xi x2), none, none, none, none, none] [] h (PoL r) := by
  unfold b_X1_work_0 at hF
  refine x_iconst (n := 0) (b := 1) dX1_work_0 (by decide) rfl ?_
  refine x_istore_n (i := 3) (b := 2) (ls2 := [some (xr 1 x0), some (xi x1), some (xi x2), some (xi 0), none, none, none, none]) dX1_work_1 rfl (Nat.le_of_ble_eq_true rfl) rfl rfl ?_
  refine x_iconst (n := 0) (b := 3) dX1_work_2 (by decide) rfl ?_
  refine x_iload_n (i := 1) (b := 4) dX1_work_3 rfl rfl rfl ?_
  refine x_max (b := 7) dX1_work_4 mw_X1_27 (Nat.le_of_ble_eq_true rfl) ⟨Nat.le_refl _, Nat.le_refl _⟩ rfl ?_
  obtain ⟨z1, e_z1, hF⟩ := lt_e hF
  refine x_eq (y := z1) e_z1 ?_
  refine x_istore (i := 4) (b := 9) (ls2 := [some (xr 1 x0), some (xi x1), some (xi x2), some (xi 0), some (xi z1), none, none, none]) dX1_work_7 (Nat.le_of_ble_eq_true rfl) rfl rfl ?_
  exact x_dp (ls2 := [some (xr 1 x0), none, some (xi x2), some (xi 0), some (xi z1), none, none, none]) ⟨rfl, rfl, rfl, rfl, trivial⟩ (hr_9 x0 x2 0 z1 h hL hF)
set_option maxHeartbeats 4000000 in
set_option maxRecDepth 100000 in
theorem t_X1_work_1 (E : xE) (d : Nat) (rec : Rk) (r : Int × Hp) (hr_42 : ∀ (x0 x2 x3 x4 x5 : Int) (h : Hp), Lay h → rec 2 [x0, x2, x3, x4, x5] h = some r → X E mX1_work (d + 2) (0, 0) (0, 0) 42 [some (xr 1 x0), none, some (xi x2), some (xi x3), some (xi x4), some (xi x5), none, none] [] h (PoL r)) (hr_140 : ∀ (x0 x2 x3 x4 y0 y1 y2 : Int) (h : Hp), Lay h → rec 5 [x0, x2, x3, x4, y0, y1, y2] h = some r → X E mX1_work (d + 2) (0, 0) (0, 0) 140 [some (xr 1 x0), none, some (xi x2), some (xi x3), some (xi x4), none, none, none] [xl y0, xi y1, xr 28 y2] h (PoL r)) (hr_144 : ∀ (x0 x2 x3 x4 x5 : Int) (h : Hp), Lay h → rec 6 [x0, x2, x3, x4, x5] h = some r → X E mX1_work (d + 2) (0, 0) (0, 0) 144 [some (xr 1 x0), none, some (xi x2), some (xi x3), some (xi x4), some (xi x5), none, none] [] h (PoL r)) (hr_218 : ∀ (x0 x3 : Int) (h : Hp), Lay h → rec 8 [x0, x3] h = some r → X E mX1_work (d + 2) (0, 0) (0, 0) 218 [some (xr 1 x0), none, none, some (xi x3), none, none, none, none] [] h (PoL r)) (x0 x2 x3 x4 : Int) (h : Hp) (hL : Lay h) (hF : b_X1_work_1 rec x0 x2 x3 x4 h = some r) : X E mX1_work (d + 2) (0, 0) (0, 0) 9 [some (xr 1 x0), none, some (xi x2), some (xi x3), some (xi x4), none, none, none] [] h (PoL r) := by
  unfold b_X1_work_1 at hF
  refine x_iload (i := 4) (b := 11) dX1_work_9 rfl rfl ?_
  refine x_iload_n (i := 2) (b := 12) dX1_work_11 rfl rfl rfl ?_
  refine x_icmp_ge (tgt := 218) (b := 15) dX1_work_12 (by decide) rfl (fun hc => ?_) (fun hc => ?_)
  · replace hF := br_T hc hF
    exact x_dp (ls2 := [some (xr 1 x0), none, none, some (xi x3), none, none, none, none]) ⟨rfl, rfl, trivial⟩ (hr_218 x0 x3 h hL hF)
  · replace hF := br_F hc hF
    refine x_iload (i := 4) (b := 17) dX1_work_15 rfl rfl ?_
    refine x_bipush (n := 64) (b := 19) dX1_work_17 (by decide) rfl ?_
    refine x_icmp_ge (tgt := 218) (b := 22) dX1_work_19 (by decide) rfl (fun hc => ?_) (fun hc => ?_)
    · replace hF := br_T hc hF
      exact x_dp (ls2 := [some (xr 1 x0), none, none, some (xi x3), none, none, none, none]) ⟨rfl, rfl, trivial⟩ (hr_218 x0 x3 h hL hF)
    · replace hF := br_F hc hF
      refine x_aload_n (i := 0) (b := 23) dX1_work_22 rfl rfl rfl ?_
      refine x_getL (j := x0) (t := (25, 0, true)) (b := 26) fk_X1_9 dX1_work_23 rfl hL rfl rfl rfl ?_
      refine x_iload (i := 4) (b := 28) dX1_work_26 rfl rfl ?_
      obtain ⟨hs, hF⟩ := ck_e hF
      refine x_iald (v := gI h 25 x0 x4) (b := 29) ak_25 dX1_work_28 hs rfl rfl ?_
      obtain ⟨z1, e_z1, hF⟩ := lt_e hF
      refine x_eq (y := z1) e_z1 ?_
      refine x_istore (i := 5) (b := 31) (ls2 := [some (xr 1 x0), none, some (xi x2), some (xi x3), some (xi x4), some (xi z1), none, none]) dX1_work_29 (Nat.le_of_ble_eq_true rfl) rfl rfl ?_
      refine x_iload (i := 5) (b := 33) dX1_work_31 rfl rfl ?_
      refine x_if_eq (tgt := 42) (b := 36) dX1_work_33 (by decide) rfl (fun hc => ?_) (fun hc => ?_)
      · replace hF := br_T hc hF
        exact x_dp (ls2 := [some (xr 1 x0), none, some (xi x2), some (xi x3), some (xi x4), some (xi z1), none, none]) ⟨rfl, rfl, rfl, rfl, rfl, trivial⟩ (hr_42 x0 x2 x3 x4 z1 h hL hF)
      · replace hF := br_F hc hF
        refine x_iload (i := 5) (b := 38) dX1_work_36 rfl rfl ?_
        refine x_iconst (n := 1) (b := 39) dX1_work_38 (by decide) rfl ?_
        refine x_icmp_ne (tgt := 104) (b := 42) dX1_work_39 (by decide) rfl (fun hc => ?_) (fun hc => ?_)
        · replace hF := br_F hc hF
          refine x_iload (i := 5) (b := 106) dX1_work_104 rfl rfl ?_
          refine x_iconst (n := 4) (b := 107) dX1_work_106 (by decide) rfl ?_
          refine x_icmp_ne (tgt := 144) (b := 110) dX1_work_107 (by decide) rfl (fun hc => ?_) (fun hc => ?_)
          · replace hF := br_F hc hF
            exact x_dp (ls2 := [some (xr 1 x0), none, some (xi x2), some (xi x3), some (xi x4), some (xi z1), none, none]) ⟨rfl, rfl, rfl, rfl, rfl, trivial⟩ (hr_144 x0 x2 x3 x4 z1 h hL hF)
          · replace hF := br_T hc hF
            refine x_iload_n (i := 3) (b := 111) dX1_work_110 rfl rfl rfl ?_
            refine x_iconst (n := 1) (b := 112) dX1_work_111 (by decide) rfl ?_
            refine x_icmp_lt (tgt := 144) (b := 115) dX1_work_112 (by decide) rfl (fun hc => ?_) (fun hc => ?_)
            · replace hF := br_T hc hF
              exact x_dp (ls2 := [some (xr 1 x0), none, some (xi x2), some (xi x3), some (xi x4), some (xi z1), none, none]) ⟨rfl, rfl, rfl, rfl, rfl, trivial⟩ (hr_144 x0 x2 x3 x4 z1 h hL hF)
            · replace hF := br_F hc hF
              refine x_aload_n (i := 0) (b := 116) dX1_work_115 rfl rfl rfl ?_
              refine x_getL (j := x0) (t := (28, 0, true)) (b := 119) fk_X1_24 dX1_work_116 rfl hL rfl rfl rfl ?_
              refine x_iload_n (i := 3) (b := 120) dX1_work_119 rfl rfl rfl ?_
              refine x_iconst (n := 1) (b := 121) dX1_work_120 (by decide) rfl ?_
              obtain ⟨hs, hF⟩ := ck_e hF
              refine x_isub (b := 122) dX1_work_121 hs rfl ?_
              refine x_aload_n (i := 0) (b := 123) dX1_work_122 rfl rfl rfl ?_
              refine x_getL (j := x0) (t := (28, 0, true)) (b := 126) fk_X1_24 dX1_work_123 rfl hL rfl rfl rfl ?_
              refine x_iload_n (i := 3) (b := 127) dX1_work_126 rfl rfl rfl ?_
              refine x_iconst (n := 1) (b := 128) dX1_work_127 (by decide) rfl ?_
              obtain ⟨hs, hF⟩ := ck_e hF
              refine x_isub (b := 129) dX1_work_128 hs rfl ?_
              obtain ⟨hs, hF⟩ := ck_e hF
              refine x_lald (v := gI h 28 x0 (x3 - 1)) (b := 130) ak_28 dX1_work_129 hs rfl rfl ?_
              refine x_lconst (z := 0) (b := 131) dX1_work_130 rfl (by decide) rfl ?_
              refine x_lcmp (b := 132) dX1_work_131 rfl ?_
              refine x_if_ne (tgt := 139) (b := 135) dX1_work_132 (by decide) rfl (fun hc => ?_) (fun hc => ?_)
              · replace hF := br_F hc hF
                refine x_lconst (z := 0) (b := 140) dX1_work_139 rfl (by decide) rfl ?_
                exact x_dp (ls2 := [some (xr 1 x0), none, some (xi x2), some (xi x3), some (xi x4), none, none, none]) ⟨rfl, rfl, rfl, rfl, trivial⟩ (hr_140 x0 x2 x3 x4 0 (x3 - 1) x0 h hL hF)
              · replace hF := br_T hc hF
                refine x_lconst (z := 1) (b := 136) dX1_work_135 rfl (by decide) rfl ?_
                refine x_goto (tgt := 140) dX1_work_136 (by decide) ?_
                exact x_dp (ls2 := [some (xr 1 x0), none, some (xi x2), some (xi x3), some (xi x4), none, none, none]) ⟨rfl, rfl, rfl, rfl, trivial⟩ (hr_140 x0 x2 x3 x4 1 (x3 - 1) x0 h hL hF)
        · replace hF := br_T hc hF
          exact x_dp (ls2 := [some (xr 1 x0), none, some (xi x2), some (xi x3), some (xi x4), some (xi z1), none, none]) ⟨rfl, rfl, rfl, rfl, rfl, trivial⟩ (hr_42 x0 x2 x3 x4 z1 h hL hF)
set_option maxHeartbeats 4000000 in
set_option maxRecDepth 100000 in
theorem t_X1_work_2 (E : xE) (d : Nat) (rec : Rk) (r : Int × Hp) (hr_94 : ∀ (x0 x2 x3 x4 x6 y0 y1 : Int) (h : Hp), Lay h → rec 3 [x0, x2, x3, x4, x6, y0, y1] h = some r → X E mX1_work (d + 2) (0, 0) (0, 0) 94 [some (xr 1 x0), none, some (xi x2), some (xi x3), some (xi x4), none, some (xi x6), none] [xi y0, xr 28 y1] h (PoL r)) (hr_97 : ∀ (x0 x2 x3 x4 y0 y1 y2 : Int) (h : Hp), Lay h → rec 4 [x0, x2, x3, x4, y0, y1, y2] h = some r → X E mX1_work (d + 2) (0, 0) (0, 0) 97 [some (xr 1 x0), none, some (xi x2), some (xi x3), some (xi x4), none, none, none] [xl y0, xi y1, xr 28 y2] h (PoL r)) (x0 x2 x3 x4 x5 : Int) (h : Hp) (hL : Lay h) (hF : b_X1_work_2 rec x0 x2 x3 x4 x5 h = some r) : X E mX1_work (d + 2) (0, 0) (0, 0) 42 [some (xr 1 x0), none, some (xi x2), some (xi x3), some (xi x4), some (xi x5), none, none] [] h (PoL r) := by
  unfold b_X1_work_2 at hF
  refine x_iload_n (i := 3) (b := 43) dX1_work_42 rfl rfl rfl ?_
  refine x_bipush (n := 64) (b := 45) dX1_work_43 (by decide) rfl ?_
  refine x_icmp_lt (tgt := 52) (b := 48) dX1_work_45 (by decide) rfl (fun hc => ?_) (fun hc => ?_)
  · replace hF := br_T hc hF
    refine x_aload_n (i := 0) (b := 53) dX1_work_52 rfl rfl rfl ?_
    refine x_getL (j := x0) (t := (26, 0, true)) (b := 56) fk_X1_13 dX1_work_53 rfl hL rfl rfl rfl ?_
    refine x_iload (i := 4) (b := 58) dX1_work_56 rfl rfl ?_
    obtain ⟨hs, hF⟩ := ck_e hF
    refine x_iald (v := gI h 26 x0 x4) (b := 59) ak_26 dX1_work_58 hs rfl rfl ?_
    obtain ⟨z1, e_z1, hF⟩ := lt_e hF
    refine x_eq (y := z1) e_z1 ?_
    refine x_istore (i := 6) (b := 61) (ls2 := [some (xr 1 x0), none, some (xi x2), some (xi x3), some (xi x4), some (xi x5), some (xi z1), none]) dX1_work_59 (Nat.le_of_ble_eq_true rfl) rfl rfl ?_
    refine x_aload_n (i := 0) (b := 62) dX1_work_61 rfl rfl rfl ?_
    refine x_getL (j := x0) (t := (28, 0, true)) (b := 65) fk_X1_24 dX1_work_62 rfl hL rfl rfl rfl ?_
    refine x_iload_n (i := 3) (b := 66) dX1_work_65 rfl rfl rfl ?_
    refine x_iload (i := 5) (b := 68) dX1_work_66 rfl rfl ?_
    refine x_iconst (n := 1) (b := 69) dX1_work_68 (by decide) rfl ?_
    refine x_icmp_ne (tgt := 94) (b := 72) dX1_work_69 (by decide) rfl (fun hc => ?_) (fun hc => ?_)
    · replace hF := br_F hc hF
      exact x_dp (ls2 := [some (xr 1 x0), none, some (xi x2), some (xi x3), some (xi x4), none, some (xi z1), none]) ⟨rfl, rfl, rfl, rfl, rfl, trivial⟩ (hr_94 x0 x2 x3 x4 z1 x3 x0 h hL hF)
    · replace hF := br_T hc hF
      refine x_iload (i := 6) (b := 74) dX1_work_72 rfl rfl ?_
      refine x_if_lt (tgt := 94) (b := 77) dX1_work_74 (by decide) rfl (fun hc => ?_) (fun hc => ?_)
      · replace hF := br_T hc hF
        exact x_dp (ls2 := [some (xr 1 x0), none, some (xi x2), some (xi x3), some (xi x4), none, some (xi z1), none]) ⟨rfl, rfl, rfl, rfl, rfl, trivial⟩ (hr_94 x0 x2 x3 x4 z1 x3 x0 h hL hF)
      · replace hF := br_F hc hF
        refine x_iload (i := 6) (b := 79) dX1_work_77 rfl rfl ?_
        refine x_bipush (n := 7) (b := 81) dX1_work_79 (by decide) rfl ?_
        refine x_icmp_ge (tgt := 94) (b := 84) dX1_work_81 (by decide) rfl (fun hc => ?_) (fun hc => ?_)
        · replace hF := br_T hc hF
          exact x_dp (ls2 := [some (xr 1 x0), none, some (xi x2), some (xi x3), some (xi x4), none, some (xi z1), none]) ⟨rfl, rfl, rfl, rfl, rfl, trivial⟩ (hr_94 x0 x2 x3 x4 z1 x3 x0 h hL hF)
        · replace hF := br_F hc hF
          refine x_aload_n (i := 0) (b := 85) dX1_work_84 rfl rfl rfl ?_
          refine x_getL (j := x0) (t := (27, 0, true)) (b := 88) fk_X1_20 dX1_work_85 rfl hL rfl rfl rfl ?_
          refine x_iload (i := 6) (b := 90) dX1_work_88 rfl rfl ?_
          obtain ⟨hs, hF⟩ := ck_e hF
          refine x_lald (v := gI h 27 x0 z1) (b := 91) ak_27 dX1_work_90 hs rfl rfl ?_
          refine x_goto (tgt := 97) dX1_work_91 (by decide) ?_
          exact x_dp (ls2 := [some (xr 1 x0), none, some (xi x2), some (xi x3), some (xi x4), none, none, none]) ⟨rfl, rfl, rfl, rfl, trivial⟩ (hr_97 x0 x2 x3 x4 (gI h 27 x0 z1) x3 x0 h hL hF)
  · replace hF := br_F hc hF
    refine x_ldc2 (z := (-9223372036854775808)) (b := 51) dX1_work_48 kw_1124 (by decide) rfl ?_
    refine x_lreturn dX1_work_51 rfl ⟨Nat.le_refl _, Nat.le_refl _⟩ ?_
    cases hF
    exact ⟨rfl, rfl, hL⟩
set_option maxHeartbeats 4000000 in
set_option maxRecDepth 100000 in
theorem t_X1_work_3 (E : xE) (d : Nat) (rec : Rk) (r : Int × Hp) (hr_97 : ∀ (x0 x2 x3 x4 y0 y1 y2 : Int) (h : Hp), Lay h → rec 4 [x0, x2, x3, x4, y0, y1, y2] h = some r → X E mX1_work (d + 2) (0, 0) (0, 0) 97 [some (xr 1 x0), none, some (xi x2), some (xi x3), some (xi x4), none, none, none] [xl y0, xi y1, xr 28 y2] h (PoL r)) (x0 x2 x3 x4 x6 y0 y1 : Int) (h : Hp) (hL : Lay h) (hF : b_X1_work_3 rec x0 x2 x3 x4 x6 y0 y1 h = some r) : X E mX1_work (d + 2) (0, 0) (0, 0) 94 [some (xr 1 x0), none, some (xi x2), some (xi x3), some (xi x4), none, some (xi x6), none] [xi y0, xr 28 y1] h (PoL r) := by
  unfold b_X1_work_3 at hF
  refine x_iload (i := 6) (b := 96) dX1_work_94 rfl rfl ?_
  refine x_i2l (b := 97) dX1_work_96 rfl ?_
  exact x_dp (ls2 := [some (xr 1 x0), none, some (xi x2), some (xi x3), some (xi x4), none, none, none]) ⟨rfl, rfl, rfl, rfl, trivial⟩ (hr_97 x0 x2 x3 x4 x6 y0 y1 h hL hF)
set_option maxHeartbeats 4000000 in
set_option maxRecDepth 100000 in
theorem t_X1_work_4 (E : xE) (d : Nat) (rec : Rk) (r : Int × Hp) (hr_212 : ∀ (x0 x2 x3 x4 : Int) (h : Hp), Lay h → rec 7 [x0, x2, x3, x4] h = some r → X E mX1_work (d + 2) (0, 0) (0, 0) 212 [some (xr 1 x0), none, some (xi x2), some (xi x3), some (xi x4), none, none, none] [] h (PoL r)) (x0 x2 x3 x4 y0 y1 y2 : Int) (h : Hp) (hL : Lay h) (hF : b_X1_work_4 rec x0 x2 x3 x4 y0 y1 y2 h = some r) : X E mX1_work (d + 2) (0, 0) (0, 0) 97 [some (xr 1 x0), none, some (xi x2), some (xi x3), some (xi x4), none, none, none] [xl y0, xi y1, xr 28 y2] h (PoL r) := by
  unfold b_X1_work_4 at hF
  obtain ⟨hs, hF⟩ := ck_e hF
  have hs1 := hs
  refine x_last (b := 98) ak_28 dX1_work_97 hs1 rfl ?_
  obtain ⟨h1, e_h1, hF⟩ := lt_e hF
  refine x_hp (h2 := h1) e_h1 ?_
  replace hL : Lay h1 := by rw [← e_h1]; exact hL
  obtain ⟨hs, hF⟩ := ck_e hF
  refine x_iinc (i := 3) (b := 101) (ls2 := [some (xr 1 x0), none, some (xi x2), some (xi (x3 + 1)), some (xi x4), none, none, none]) dX1_work_98 rfl (Nat.le_of_ble_eq_true rfl) hs rfl rfl ?_
  refine x_goto (tgt := 212) dX1_work_101 (by decide) ?_
  exact x_dp (ls2 := [some (xr 1 x0), none, some (xi x2), some (xi (x3 + 1)), some (xi x4), none, none, none]) ⟨rfl, rfl, rfl, rfl, trivial⟩ (hr_212 x0 x2 (x3 + 1) x4 h1 hL hF)
set_option maxHeartbeats 4000000 in
set_option maxRecDepth 100000 in
theorem t_X1_work_5 (E : xE) (d : Nat) (rec : Rk) (r : Int × Hp) (hr_212 : ∀ (x0 x2 x3 x4 : Int) (h : Hp), Lay h → rec 7 [x0, x2, x3, x4] h = some r → X E mX1_work (d + 2) (0, 0) (0, 0) 212 [some (xr 1 x0), none, some (xi x2), some (xi x3), some (xi x4), none, none, none] [] h (PoL r)) (x0 x2 x3 x4 y0 y1 y2 : Int) (h : Hp) (hL : Lay h) (hF : b_X1_work_5 rec x0 x2 x3 x4 y0 y1 y2 h = some r) : X E mX1_work (d + 2) (0, 0) (0, 0) 140 [some (xr 1 x0), none, some (xi x2), some (xi x3), some (xi x4), none, none, none] [xl y0, xi y1, xr 28 y2] h (PoL r) := by
  unfold b_X1_work_5 at hF
  obtain ⟨hs, hF⟩ := ck_e hF
  have hs1 := hs
  refine x_last (b := 141) ak_28 dX1_work_140 hs1 rfl ?_
  obtain ⟨h1, e_h1, hF⟩ := lt_e hF
  refine x_hp (h2 := h1) e_h1 ?_
  replace hL : Lay h1 := by rw [← e_h1]; exact hL
  refine x_goto (tgt := 212) dX1_work_141 (by decide) ?_
  exact x_dp (ls2 := [some (xr 1 x0), none, some (xi x2), some (xi x3), some (xi x4), none, none, none]) ⟨rfl, rfl, rfl, rfl, trivial⟩ (hr_212 x0 x2 x3 x4 h1 hL hF)
set_option maxHeartbeats 4000000 in
set_option maxRecDepth 100000 in
theorem t_X1_work_6 (E : xE) (d : Nat) (rec : Rk) (r : Int × Hp) (hr_212 : ∀ (x0 x2 x3 x4 : Int) (h : Hp), Lay h → rec 7 [x0, x2, x3, x4] h = some r → X E mX1_work (d + 2) (0, 0) (0, 0) 212 [some (xr 1 x0), none, some (xi x2), some (xi x3), some (xi x4), none, none, none] [] h (PoL r)) (x0 x2 x3 x4 x5 : Int) (h : Hp) (hL : Lay h) (hF : b_X1_work_6 rec x0 x2 x3 x4 x5 h = some r) : X E mX1_work (d + 2) (0, 0) (0, 0) 144 [some (xr 1 x0), none, some (xi x2), some (xi x3), some (xi x4), some (xi x5), none, none] [] h (PoL r) := by
  unfold b_X1_work_6 at hF
  refine x_iload_n (i := 3) (b := 145) dX1_work_144 rfl rfl rfl ?_
  refine x_iconst (n := 2) (b := 146) dX1_work_145 (by decide) rfl ?_
  refine x_icmp_lt (tgt := 208) (b := 149) dX1_work_146 (by decide) rfl (fun hc => ?_) (fun hc => ?_)
  · replace hF := br_T hc hF
    refine x_ldc2 (z := (-9223372036854775808)) (b := 211) dX1_work_208 kw_1124 (by decide) rfl ?_
    refine x_lreturn dX1_work_211 rfl ⟨Nat.le_refl _, Nat.le_refl _⟩ ?_
    cases hF
    exact ⟨rfl, rfl, hL⟩
  · replace hF := br_F hc hF
    obtain ⟨hs, hF⟩ := ck_e hF
    refine x_iinc (i := 3) (b := 152) (ls2 := [some (xr 1 x0), none, some (xi x2), some (xi (x3 + (-1))), some (xi x4), some (xi x5), none, none]) dX1_work_149 rfl (Nat.le_of_ble_eq_true rfl) hs rfl rfl ?_
    refine x_iload (i := 5) (b := 154) dX1_work_152 rfl rfl ?_
    refine x_aload_n (i := 0) (b := 155) dX1_work_154 rfl rfl rfl ?_
    refine x_getL (j := x0) (t := (28, 0, true)) (b := 158) fk_X1_24 dX1_work_155 rfl hL rfl rfl rfl ?_
    refine x_iload_n (i := 3) (b := 159) dX1_work_158 rfl rfl rfl ?_
    refine x_iconst (n := 1) (b := 160) dX1_work_159 (by decide) rfl ?_
    obtain ⟨hs, hF⟩ := ck_e hF
    refine x_isub (b := 161) dX1_work_160 hs rfl ?_
    obtain ⟨hs, hF⟩ := ck_e hF
    refine x_lald (v := gI h 28 x0 ((x3 + (-1)) - 1)) (b := 162) ak_28 dX1_work_161 hs rfl rfl ?_
    refine x_aload_n (i := 0) (b := 163) dX1_work_162 rfl rfl rfl ?_
    refine x_getL (j := x0) (t := (28, 0, true)) (b := 166) fk_X1_24 dX1_work_163 rfl hL rfl rfl rfl ?_
    refine x_iload_n (i := 3) (b := 167) dX1_work_166 rfl rfl rfl ?_
    obtain ⟨hs, hF⟩ := ck_e hF
    refine x_lald (v := gI h 28 x0 (x3 + (-1))) (b := 168) ak_28 dX1_work_167 hs rfl rfl ?_
    obtain ⟨v1, h2, hq, hF⟩ := bd_e hF
    refine x_callS (as := [xi x5, xl (gI h 28 x0 ((x3 + (-1)) - 1)), xl (gI h 28 x0 (x3 + (-1)))]) (rest := []) (b := 171) (c_X1_join d x5 (gI h 28 x0 ((x3 + (-1)) - 1)) (gI h 28 x0 (x3 + (-1))) h _ hL hq) dX1_work_168 cw_X1_35 rfl rfl (Nat.le_of_ble_eq_true rfl) ⟨Nat.le_refl _, Nat.le_refl _⟩ rfl (fun rv hh hp _ => ?_)
    obtain ⟨rfl, rfl, hL⟩ := hp
    refine x_lstore (i := 6) (b := 173) (ls2 := [some (xr 1 x0), none, some (xi x2), some (xi (x3 + (-1))), some (xi x4), some (xi x5), some (xl v1), none]) dX1_work_171 (Nat.le_of_ble_eq_true rfl) rfl rfl ?_
    refine x_lload (i := 6) (b := 175) dX1_work_173 rfl rfl ?_
    refine x_ldc2 (z := 1000000000000) (b := 178) dX1_work_175 kw_1131 (by decide) rfl ?_
    refine x_lcmp (b := 179) dX1_work_178 rfl ?_
    refine x_if_gt (tgt := 191) (b := 182) dX1_work_179 (by decide) rfl (fun hc => ?_) (fun hc => ?_)
    · replace hF := br_T hc hF
      refine x_ldc2 (z := (-9223372036854775808)) (b := 194) dX1_work_191 kw_1124 (by decide) rfl ?_
      refine x_lreturn dX1_work_194 rfl ⟨Nat.le_refl _, Nat.le_refl _⟩ ?_
      cases hF
      exact ⟨rfl, rfl, hL⟩
    · replace hF := br_F hc hF
      refine x_lload (i := 6) (b := 184) dX1_work_182 rfl rfl ?_
      refine x_ldc2 (z := (-1000000000000)) (b := 187) dX1_work_184 kw_1132 (by decide) rfl ?_
      refine x_lcmp (b := 188) dX1_work_187 rfl ?_
      refine x_if_ge (tgt := 195) (b := 191) dX1_work_188 (by decide) rfl (fun hc => ?_) (fun hc => ?_)
      · replace hF := br_T hc hF
        refine x_aload_n (i := 0) (b := 196) dX1_work_195 rfl rfl rfl ?_
        refine x_getL (j := x0) (t := (28, 0, true)) (b := 199) fk_X1_24 dX1_work_196 rfl hL rfl rfl rfl ?_
        refine x_iload_n (i := 3) (b := 200) dX1_work_199 rfl rfl rfl ?_
        refine x_iconst (n := 1) (b := 201) dX1_work_200 (by decide) rfl ?_
        obtain ⟨hs, hF⟩ := ck_e hF
        refine x_isub (b := 202) dX1_work_201 hs rfl ?_
        refine x_lload (i := 6) (b := 204) dX1_work_202 rfl rfl ?_
        obtain ⟨hs, hF⟩ := ck_e hF
        have hs1 := hs
        refine x_last (b := 205) ak_28 dX1_work_204 hs1 rfl ?_
        obtain ⟨h3, e_h3, hF⟩ := lt_e hF
        refine x_hp (h2 := h3) e_h3 ?_
        replace hL : Lay h3 := by rw [← e_h3]; exact hL
        refine x_goto (tgt := 212) dX1_work_205 (by decide) ?_
        exact x_dp (ls2 := [some (xr 1 x0), none, some (xi x2), some (xi (x3 + (-1))), some (xi x4), none, none, none]) ⟨rfl, rfl, rfl, rfl, trivial⟩ (hr_212 x0 x2 (x3 + (-1)) x4 h3 hL hF)
      · replace hF := br_F hc hF
        refine x_ldc2 (z := (-9223372036854775808)) (b := 194) dX1_work_191 kw_1124 (by decide) rfl ?_
        refine x_lreturn dX1_work_194 rfl ⟨Nat.le_refl _, Nat.le_refl _⟩ ?_
        cases hF
        exact ⟨rfl, rfl, hL⟩
set_option maxHeartbeats 4000000 in
set_option maxRecDepth 100000 in
theorem t_X1_work_7 (E : xE) (d : Nat) (rec : Rk) (r : Int × Hp) (hr_9 : ∀ (x0 x2 x3 x4 : Int) (h : Hp), Lay h → rec 1 [x0, x2, x3, x4] h = some r → X E mX1_work (d + 2) (0, 0) (0, 0) 9 [some (xr 1 x0), none, some (xi x2), some (xi x3), some (xi x4), none, none, none] [] h (PoL r)) (x0 x2 x3 x4 : Int) (h : Hp) (hL : Lay h) (hF : b_X1_work_7 rec x0 x2 x3 x4 h = some r) : X E mX1_work (d + 2) (0, 0) (0, 0) 212 [some (xr 1 x0), none, some (xi x2), some (xi x3), some (xi x4), none, none, none] [] h (PoL r) := by
  unfold b_X1_work_7 at hF
  obtain ⟨hs, hF⟩ := ck_e hF
  refine x_iinc (i := 4) (b := 215) (ls2 := [some (xr 1 x0), none, some (xi x2), some (xi x3), some (xi (x4 + 1)), none, none, none]) dX1_work_212 rfl (Nat.le_of_ble_eq_true rfl) hs rfl rfl ?_
  refine x_goto (tgt := 9) dX1_work_215 (by decide) ?_
  exact x_dp (ls2 := [some (xr 1 x0), none, some (xi x2), some (xi x3), some (xi (x4 + 1)), none, none, none]) ⟨rfl, rfl, rfl, rfl, trivial⟩ (hr_9 x0 x2 x3 (x4 + 1) h hL hF)
set_option maxHeartbeats 4000000 in
set_option maxRecDepth 100000 in
theorem t_X1_work_8 (E : xE) (d : Nat) (rec : Rk) (r : Int × Hp) (x0 x3 : Int) (h : Hp) (hL : Lay h) (hF : b_X1_work_8 rec x0 x3 h = some r) : X E mX1_work (d + 2) (0, 0) (0, 0) 218 [some (xr 1 x0), none, none, some (xi x3), none, none, none, none] [] h (PoL r) := by
  unfold b_X1_work_8 at hF
  refine x_iload_n (i := 3) (b := 219) dX1_work_218 rfl rfl rfl ?_
  refine x_iconst (n := 1) (b := 220) dX1_work_219 (by decide) rfl ?_
  refine x_icmp_ne (tgt := 232) (b := 223) dX1_work_220 (by decide) rfl (fun hc => ?_) (fun hc => ?_)
  · replace hF := br_F hc hF
    refine x_ldc2 (z := (-9223372036854775808)) (b := 235) dX1_work_232 kw_1124 (by decide) rfl ?_
    refine x_lreturn dX1_work_235 rfl ⟨Nat.le_refl _, Nat.le_refl _⟩ ?_
    cases hF
    exact ⟨rfl, rfl, hL⟩
  · replace hF := br_T hc hF
    refine x_aload_n (i := 0) (b := 224) dX1_work_223 rfl rfl rfl ?_
    refine x_getL (j := x0) (t := (28, 0, true)) (b := 227) fk_X1_24 dX1_work_224 rfl hL rfl rfl rfl ?_
    refine x_iconst (n := 0) (b := 228) dX1_work_227 (by decide) rfl ?_
    obtain ⟨hs, hF⟩ := ck_e hF
    refine x_lald (v := gI h 28 x0 0) (b := 229) ak_28 dX1_work_228 hs rfl rfl ?_
    refine x_goto (tgt := 235) dX1_work_229 (by decide) ?_
    refine x_lreturn dX1_work_235 rfl ⟨Nat.le_refl _, Nat.le_refl _⟩ ?_
    cases hF
    exact ⟨rfl, rfl, hL⟩
set_option maxHeartbeats 4000000 in
set_option maxRecDepth 100000 in
theorem u_X1_work (E : xE) (d : Nat) (r : Int × Hp) : ∀ n : Nat, (∀ (x0 x1 x2 : Int) (h : Hp), Lay h → g_X1_work n 0 [x0, x1, x2] h = some r → X E mX1_work (d + 2) (0, 0) (0, 0) 0 [some (xr 1 x0), some (xi x1), some (xi x2), none, none, none, none, none] [] h (PoL r)) ∧ (∀ (x0 x2 x3 x4 : Int) (h : Hp), Lay h → g_X1_work n 1 [x0, x2, x3, x4] h = some r → X E mX1_work (d + 2) (0, 0) (0, 0) 9 [some (xr 1 x0), none, some (xi x2), some (xi x3), some (xi x4), none, none, none] [] h (PoL r)) ∧ (∀ (x0 x2 x3 x4 x5 : Int) (h : Hp), Lay h → g_X1_work n 2 [x0, x2, x3, x4, x5] h = some r → X E mX1_work (d + 2) (0, 0) (0, 0) 42 [some (xr 1 x0), none, some (xi x2), some (xi x3), some (xi x4), some (xi x5), none, none] [] h (PoL r)) ∧ (∀ (x0 x2 x3 x4 x6 y0 y1 : Int) (h : Hp), Lay h → g_X1_work n 3 [x0, x2, x3, x4, x6, y0, y1] h = some r → X E mX1_work (d + 2) (0, 0) (0, 0) 94 [some (xr 1 x0), none, some (xi x2), some (xi x3), some (xi x4), none, some (xi x6), none] [xi y0, xr 28 y1] h (PoL r)) ∧ (∀ (x0 x2 x3 x4 y0 y1 y2 : Int) (h : Hp), Lay h → g_X1_work n 4 [x0, x2, x3, x4, y0, y1, y2] h = some r → X E mX1_work (d + 2) (0, 0) (0, 0) 97 [some (xr 1 x0), none, some (xi x2), some (xi x3), some (xi x4), none, none, none] [xl y0, xi y1, xr 28 y2] h (PoL r)) ∧ (∀ (x0 x2 x3 x4 y0 y1 y2 : Int) (h : Hp), Lay h → g_X1_work n 5 [x0, x2, x3, x4, y0, y1, y2] h = some r → X E mX1_work (d + 2) (0, 0) (0, 0) 140 [some (xr 1 x0), none, some (xi x2), some (xi x3), some (xi x4), none, none, none] [xl y0, xi y1, xr 28 y2] h (PoL r)) ∧ (∀ (x0 x2 x3 x4 x5 : Int) (h : Hp), Lay h → g_X1_work n 6 [x0, x2, x3, x4, x5] h = some r → X E mX1_work (d + 2) (0, 0) (0, 0) 144 [some (xr 1 x0), none, some (xi x2), some (xi x3), some (xi x4), some (xi x5), none, none] [] h (PoL r)) ∧ (∀ (x0 x2 x3 x4 : Int) (h : Hp), Lay h → g_X1_work n 7 [x0, x2, x3, x4] h = some r → X E mX1_work (d + 2) (0, 0) (0, 0) 212 [some (xr 1 x0), none, some (xi x2), some (xi x3), some (xi x4), none, none, none] [] h (PoL r)) ∧ (∀ (x0 x3 : Int) (h : Hp), Lay h → g_X1_work n 8 [x0, x3] h = some r → X E mX1_work (d + 2) (0, 0) (0, 0) 218 [some (xr 1 x0), none, none, some (xi x3), none, none, none, none] [] h (PoL r)) := by
  intro n
  induction n with
  | zero => exact ⟨fun _ _ _ _ _ hF => no_e (r := r) hF, fun _ _ _ _ _ _ hF => no_e (r := r) hF, fun _ _ _ _ _ _ _ hF => no_e (r := r) hF, fun _ _ _ _ _ _ _ _ _ hF => no_e (r := r) hF, fun _ _ _ _ _ _ _ _ _ hF => no_e (r := r) hF, fun _ _ _ _ _ _ _ _ _ hF => no_e (r := r) hF, fun _ _ _ _ _ _ _ hF => no_e (r := r) hF, fun _ _ _ _ _ _ hF => no_e (r := r) hF, fun _ _ _ _ hF => no_e (r := r) hF⟩
  | succ n ih => exact ⟨fun x0 x1 x2 h hL hF => t_X1_work_0 E d (g_X1_work n) r ih.2.1 x0 x1 x2 h hL hF, fun x0 x2 x3 x4 h hL hF => t_X1_work_1 E d (g_X1_work n) r ih.2.2.1 ih.2.2.2.2.2.1 ih.2.2.2.2.2.2.1 ih.2.2.2.2.2.2.2.2 x0 x2 x3 x4 h hL hF, fun x0 x2 x3 x4 x5 h hL hF => t_X1_work_2 E d (g_X1_work n) r ih.2.2.2.1 ih.2.2.2.2.1 x0 x2 x3 x4 x5 h hL hF, fun x0 x2 x3 x4 x6 y0 y1 h hL hF => t_X1_work_3 E d (g_X1_work n) r ih.2.2.2.2.1 x0 x2 x3 x4 x6 y0 y1 h hL hF, fun x0 x2 x3 x4 y0 y1 y2 h hL hF => t_X1_work_4 E d (g_X1_work n) r ih.2.2.2.2.2.2.2.1 x0 x2 x3 x4 y0 y1 y2 h hL hF, fun x0 x2 x3 x4 y0 y1 y2 h hL hF => t_X1_work_5 E d (g_X1_work n) r ih.2.2.2.2.2.2.2.1 x0 x2 x3 x4 y0 y1 y2 h hL hF, fun x0 x2 x3 x4 x5 h hL hF => t_X1_work_6 E d (g_X1_work n) r ih.2.2.2.2.2.2.2.1 x0 x2 x3 x4 x5 h hL hF, fun x0 x2 x3 x4 h hL hF => t_X1_work_7 E d (g_X1_work n) r ih.2.1 x0 x2 x3 x4 h hL hF, fun x0 x3 h hL hF => t_X1_work_8 E d (g_X1_work n) r  x0 x3 h hL hF⟩
theorem c_X1_work (d : Nat) (x0 x1 x2 : Int) (h : Hp) (r : Int × Hp) (hL : Lay h) (hF : f_X1_work x0 x1 x2 h = some r) : Sp mX1_work (d + 2) (0, 0) [xr 1 x0, xi x1, xi x2] h (PoL r) :=
  sp_of (by decide) rfl (Nat.le_of_ble_eq_true rfl) (ls := [some (xr 1 x0), some (xi x1), some (xi x2), none, none, none, none, none]) rfl (fun E _ => (u_X1_work E d r FU).1 x0 x1 x2 h hL hF)
