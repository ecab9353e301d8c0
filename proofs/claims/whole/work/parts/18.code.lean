theorem dX12_puts_0 : decode cX12_puts 0 = .ok (.aload_n 0, 1) := by decide +kernel
theorem dX12_puts_1 : decode cX12_puts 1 = .ok (.getfield 247, 3) := by decide +kernel
theorem dX12_puts_4 : decode cX12_puts 4 = .ok (.ifCond .eq 4, 3) := by decide +kernel
theorem dX12_puts_7 : decode cX12_puts 7 = .ok (.return_, 1) := by decide +kernel
theorem dX12_puts_8 : decode cX12_puts 8 = .ok (.aload_n 0, 1) := by decide +kernel
theorem dX12_puts_9 : decode cX12_puts 9 = .ok (.getfield 74, 3) := by decide +kernel
theorem dX12_puts_12 : decode cX12_puts 12 = .ok (.bipush 64, 2) := by decide +kernel
theorem dX12_puts_14 : decode cX12_puts 14 = .ok (.aload_n 0, 1) := by decide +kernel
theorem dX12_puts_15 : decode cX12_puts 15 = .ok (.bipush 14, 2) := by decide +kernel
theorem dX12_puts_17 : decode cX12_puts 17 = .ok (.invokevirtual 266, 3) := by decide +kernel
theorem dX12_puts_20 : decode cX12_puts 20 = .ok (.iadd, 1) := by decide +kernel
theorem dX12_puts_21 : decode cX12_puts 21 = .ok (.iload_n 1, 1) := by decide +kernel
theorem dX12_puts_22 : decode cX12_puts 22 = .ok (.iastore, 1) := by decide +kernel
theorem dX12_puts_23 : decode cX12_puts 23 = .ok (.aload_n 0, 1) := by decide +kernel
theorem dX12_puts_24 : decode cX12_puts 24 = .ok (.getfield 77, 3) := by decide +kernel
theorem dX12_puts_27 : decode cX12_puts 27 = .ok (.bipush 64, 2) := by decide +kernel
theorem dX12_puts_29 : decode cX12_puts 29 = .ok (.aload_n 0, 1) := by decide +kernel
theorem dX12_puts_30 : decode cX12_puts 30 = .ok (.bipush 14, 2) := by decide +kernel
theorem dX12_puts_32 : decode cX12_puts 32 = .ok (.invokevirtual 266, 3) := by decide +kernel
theorem dX12_puts_35 : decode cX12_puts 35 = .ok (.iadd, 1) := by decide +kernel
theorem dX12_puts_36 : decode cX12_puts 36 = .ok (.iload_n 2, 1) := by decide +kernel
theorem dX12_puts_37 : decode cX12_puts 37 = .ok (.iastore, 1) := by decide +kernel
theorem dX12_puts_38 : decode cX12_puts 38 = .ok (.aload_n 0, 1) := by decide +kernel
theorem dX12_puts_39 : decode cX12_puts 39 = .ok (.bipush 14, 2) := by decide +kernel
theorem dX12_puts_41 : decode cX12_puts 41 = .ok (.aload_n 0, 1) := by decide +kernel
theorem dX12_puts_42 : decode cX12_puts 42 = .ok (.bipush 14, 2) := by decide +kernel
theorem dX12_puts_44 : decode cX12_puts 44 = .ok (.invokevirtual 266, 3) := by decide +kernel
theorem dX12_puts_47 : decode cX12_puts 47 = .ok (.iconst 1, 1) := by decide +kernel
theorem dX12_puts_48 : decode cX12_puts 48 = .ok (.iadd, 1) := by decide +kernel
theorem dX12_puts_49 : decode cX12_puts 49 = .ok (.invokevirtual 288, 3) := by decide +kernel
theorem dX12_puts_52 : decode cX12_puts 52 = .ok (.return_, 1) := by decide +kernel
noncomputable def b_X12_puts_0 (rec : Rk) (x1 x2 : Int) (h : Hp) : Option (Int × Hp) :=
  if (gI h 12 0 32) = 0 then (
    bd (f_X12_fresher 14 h) fun v1 h2 =>
    ck (-2147483648 ≤ 64 + v1 ∧ 64 + v1 < 2147483648) <|
    ck (0 ≤ (64 + v1) ∧ (64 + v1) < 128) <|
    lt (sI h2 81 0 (64 + v1) x1) fun h3 =>
    bd (f_X12_fresher 14 h3) fun v4 h5 =>
    ck (-2147483648 ≤ 64 + v4 ∧ 64 + v4 < 2147483648) <|
    ck (0 ≤ (64 + v4) ∧ (64 + v4) < 128) <|
    lt (sI h5 82 0 (64 + v4) x2) fun h6 =>
    bd (f_X12_fresher 14 h6) fun v7 h8 =>
    ck (-2147483648 ≤ v7 + 1 ∧ v7 + 1 < 2147483648) <|
    bd (f_X12_reads 14 (v7 + 1) h8) fun v9 h10 =>
    some (0, h10)
  ) else (
    some (0, h)
  )
noncomputable def g_X12_puts (n : Nat) : Rk := Nat.rec (motive := fun _ => Rk) (fun _ _ _ => none) (fun _ rec k l h => if k = 0 then b_X12_puts_0 rec (l.getD 0 0) (l.getD 1 0) h else none) n
noncomputable def f_X12_puts (x1 x2 : Int) (h : Hp) : Option (Int × Hp) := g_X12_puts FU 0 [x1, x2] h
set_option maxHeartbeats 4000000 in
set_option maxRecDepth 100000 in
theorem t_X12_puts_0 (E : xE) (d : Nat) (rec : Rk) (r : Int × Hp) (x1 x2 : Int) (h : Hp) (hL : Lay h) (hF : b_X12_puts_0 rec x1 x2 h = some r) : X E mX12_puts (d + 2) (0, 0) (0, 0) 0 [some (xr 12 0), some (xi x1), some (xi x2)] [] h (PoV r) := by
  unfold b_X12_puts_0 at hF
  refine x_aload_n (i := 0) (b := 1) dX12_puts_0 rfl rfl rfl ?_
  refine x_getI (v := gI h 12 0 32) (b := 4) fk_X12_247 dX12_puts_1 (by decide) rfl rfl ?_
  refine x_if_eq (tgt := 8) (b := 7) dX12_puts_4 (by decide) rfl (fun hc => ?_) (fun hc => ?_)
  · replace hF := br_T hc hF
    refine x_aload_n (i := 0) (b := 9) dX12_puts_8 rfl rfl rfl ?_
    refine x_getL (j := 0) (t := (81, 0, true)) (b := 12) fk_X12_74 dX12_puts_9 rfl hL rfl rfl rfl ?_
    refine x_bipush (n := 64) (b := 14) dX12_puts_12 (by decide) rfl ?_
    refine x_aload_n (i := 0) (b := 15) dX12_puts_14 rfl rfl rfl ?_
    refine x_bipush (n := 14) (b := 17) dX12_puts_15 (by decide) rfl ?_
    obtain ⟨v1, h2, hq, hF⟩ := bd_e hF
    refine x_callV (as := [xi 14]) (rest := [xi 64, xr 81 0]) (b := 20) (c_X12_fresher d 14 h _ hL hq) dX12_puts_17 cw_X12_266 ⟨_, _, rfl, Nat.le_of_ble_eq_true rfl⟩ rfl rfl (Nat.le_of_ble_eq_true rfl) ⟨Nat.le_refl _, Nat.le_refl _⟩ rfl (fun rv hh hp _ => ?_)
    obtain ⟨rfl, rfl, hL⟩ := hp
    obtain ⟨hs, hF⟩ := ck_e hF
    refine x_iadd (b := 21) dX12_puts_20 hs rfl ?_
    refine x_iload_n (i := 1) (b := 22) dX12_puts_21 rfl rfl rfl ?_
    obtain ⟨hs, hF⟩ := ck_e hF
    have hs1 := hs
    refine x_iast (b := 23) ak_81 dX12_puts_22 hs1 rfl ?_
    obtain ⟨h3, e_h3, hF⟩ := lt_e hF
    refine x_hp (h2 := h3) e_h3 ?_
    replace hL : Lay h3 := by rw [← e_h3]; exact hL
    refine x_aload_n (i := 0) (b := 24) dX12_puts_23 rfl rfl rfl ?_
    refine x_getL (j := 0) (t := (82, 0, true)) (b := 27) fk_X12_77 dX12_puts_24 rfl hL rfl rfl rfl ?_
    refine x_bipush (n := 64) (b := 29) dX12_puts_27 (by decide) rfl ?_
    refine x_aload_n (i := 0) (b := 30) dX12_puts_29 rfl rfl rfl ?_
    refine x_bipush (n := 14) (b := 32) dX12_puts_30 (by decide) rfl ?_
    obtain ⟨v4, h5, hq, hF⟩ := bd_e hF
    refine x_callV (as := [xi 14]) (rest := [xi 64, xr 82 0]) (b := 35) (c_X12_fresher d 14 h3 _ hL hq) dX12_puts_32 cw_X12_266 ⟨_, _, rfl, Nat.le_of_ble_eq_true rfl⟩ rfl rfl (Nat.le_of_ble_eq_true rfl) ⟨Nat.le_refl _, Nat.le_refl _⟩ rfl (fun rv hh hp _ => ?_)
    obtain ⟨rfl, rfl, hL⟩ := hp
    obtain ⟨hs, hF⟩ := ck_e hF
    refine x_iadd (b := 36) dX12_puts_35 hs rfl ?_
    refine x_iload_n (i := 2) (b := 37) dX12_puts_36 rfl rfl rfl ?_
    obtain ⟨hs, hF⟩ := ck_e hF
    have hs1 := hs
    refine x_iast (b := 38) ak_82 dX12_puts_37 hs1 rfl ?_
    obtain ⟨h6, e_h6, hF⟩ := lt_e hF
    refine x_hp (h2 := h6) e_h6 ?_
    replace hL : Lay h6 := by rw [← e_h6]; exact hL
    refine x_aload_n (i := 0) (b := 39) dX12_puts_38 rfl rfl rfl ?_
    refine x_bipush (n := 14) (b := 41) dX12_puts_39 (by decide) rfl ?_
    refine x_aload_n (i := 0) (b := 42) dX12_puts_41 rfl rfl rfl ?_
    refine x_bipush (n := 14) (b := 44) dX12_puts_42 (by decide) rfl ?_
    obtain ⟨v7, h8, hq, hF⟩ := bd_e hF
    refine x_callV (as := [xi 14]) (rest := [xi 14, xr 12 0]) (b := 47) (c_X12_fresher d 14 h6 _ hL hq) dX12_puts_44 cw_X12_266 ⟨_, _, rfl, Nat.le_of_ble_eq_true rfl⟩ rfl rfl (Nat.le_of_ble_eq_true rfl) ⟨Nat.le_refl _, Nat.le_refl _⟩ rfl (fun rv hh hp _ => ?_)
    obtain ⟨rfl, rfl, hL⟩ := hp
    refine x_iconst (n := 1) (b := 48) dX12_puts_47 (by decide) rfl ?_
    obtain ⟨hs, hF⟩ := ck_e hF
    refine x_iadd (b := 49) dX12_puts_48 hs rfl ?_
    obtain ⟨v9, h10, hq, hF⟩ := bd_e hF
    refine x_callV (as := [xi 14, xi (v7 + 1)]) (rest := []) (b := 52) (c_X12_reads d 14 (v7 + 1) h8 _ hL hq) dX12_puts_49 cw_X12_288 ⟨_, _, rfl, Nat.le_of_ble_eq_true rfl⟩ rfl rfl (Nat.le_of_ble_eq_true rfl) ⟨Nat.le_refl _, Nat.le_refl _⟩ rfl (fun rv hh hp _ => ?_)
    obtain ⟨rfl, rfl, hL⟩ := hp
    refine x_return dX12_puts_52 rfl ⟨Nat.le_refl _, Nat.le_refl _⟩ ?_
    cases hF
    exact ⟨rfl, rfl, hL⟩
  · replace hF := br_F hc hF
    refine x_return dX12_puts_7 rfl ⟨Nat.le_refl _, Nat.le_refl _⟩ ?_
    cases hF
    exact ⟨rfl, rfl, hL⟩
set_option maxHeartbeats 4000000 in
set_option maxRecDepth 100000 in
theorem u_X12_puts (E : xE) (d : Nat) (r : Int × Hp) : ∀ n : Nat, (∀ (x1 x2 : Int) (h : Hp), Lay h → g_X12_puts n 0 [x1, x2] h = some r → X E mX12_puts (d + 2) (0, 0) (0, 0) 0 [some (xr 12 0), some (xi x1), some (xi x2)] [] h (PoV r)) := by
  intro n
  induction n with
  | zero => exact fun _ _ _ _ hF => no_e (r := r) hF
  | succ n ih => exact fun x1 x2 h hL hF => t_X12_puts_0 E d (g_X12_puts n) r  x1 x2 h hL hF
theorem c_X12_puts (d : Nat) (x1 x2 : Int) (h : Hp) (r : Int × Hp) (hL : Lay h) (hF : f_X12_puts x1 x2 h = some r) : Sp mX12_puts (d + 2) (0, 0) [xr 12 0, xi x1, xi x2] h (PoV r) :=
  sp_of (by decide) rfl (Nat.le_of_ble_eq_true rfl) (ls := [some (xr 12 0), some (xi x1), some (xi x2)]) rfl (fun E _ => (u_X12_puts E d r FU) x1 x2 h hL hF)
theorem dX12_says_0 : decode cX12_says 0 = .ok (.aload_n 0, 1) := by decide +kernel
theorem dX12_says_1 : decode cX12_says 1 = .ok (.getfield 135, 3) := by decide +kernel
theorem dX12_says_4 : decode cX12_says 4 = .ok (.iconst 0, 1) := by decide +kernel
theorem dX12_says_5 : decode cX12_says 5 = .ok (.iload_n 3, 1) := by decide +kernel
theorem dX12_says_6 : decode cX12_says 6 = .ok (.i2l, 1) := by decide +kernel
theorem dX12_says_7 : decode cX12_says 7 = .ok (.lastore, 1) := by decide +kernel
theorem dX12_says_8 : decode cX12_says 8 = .ok (.aload_n 0, 1) := by decide +kernel
theorem dX12_says_9 : decode cX12_says 9 = .ok (.getfield 135, 3) := by decide +kernel
theorem dX12_says_12 : decode cX12_says 12 = .ok (.iconst 1, 1) := by decide +kernel
theorem dX12_says_13 : decode cX12_says 13 = .ok (.aload_n 0, 1) := by decide +kernel
theorem dX12_says_14 : decode cX12_says 14 = .ok (.getfield 84, 3) := by decide +kernel
theorem dX12_says_17 : decode cX12_says 17 = .ok (.bipush 64, 2) := by decide +kernel
theorem dX12_says_19 : decode cX12_says 19 = .ok (.iload 4, 2) := by decide +kernel
theorem dX12_says_21 : decode cX12_says 21 = .ok (.imul, 1) := by decide +kernel
theorem dX12_says_22 : decode cX12_says 22 = .ok (.aload_n 0, 1) := by decide +kernel
theorem dX12_says_23 : decode cX12_says 23 = .ok (.getfield 13, 3) := by decide +kernel
theorem dX12_says_26 : decode cX12_says 26 = .ok (.iconst 4, 1) := by decide +kernel
theorem dX12_says_27 : decode cX12_says 27 = .ok (.iaload, 1) := by decide +kernel
theorem dX12_says_28 : decode cX12_says 28 = .ok (.iadd, 1) := by decide +kernel
theorem dX12_says_29 : decode cX12_says 29 = .ok (.iaload, 1) := by decide +kernel
theorem dX12_says_30 : decode cX12_says 30 = .ok (.i2l, 1) := by decide +kernel
theorem dX12_says_31 : decode cX12_says 31 = .ok (.lastore, 1) := by decide +kernel
theorem dX12_says_32 : decode cX12_says 32 = .ok (.aload_n 0, 1) := by decide +kernel
theorem dX12_says_33 : decode cX12_says 33 = .ok (.getfield 135, 3) := by decide +kernel
theorem dX12_says_36 : decode cX12_says 36 = .ok (.iconst 2, 1) := by decide +kernel
theorem dX12_says_37 : decode cX12_says 37 = .ok (.iload_n 3, 1) := by decide +kernel
theorem dX12_says_38 : decode cX12_says 38 = .ok (.aload_n 0, 1) := by decide +kernel
theorem dX12_says_39 : decode cX12_says 39 = .ok (.aload_n 0, 1) := by decide +kernel
theorem dX12_says_40 : decode cX12_says 40 = .ok (.getfield 87, 3) := by decide +kernel
theorem dX12_says_43 : decode cX12_says 43 = .ok (.iload_n 1, 1) := by decide +kernel
theorem dX12_says_44 : decode cX12_says 44 = .ok (.iaload, 1) := by decide +kernel
theorem dX12_says_45 : decode cX12_says 45 = .ok (.invokevirtual 409, 3) := by decide +kernel
theorem dX12_says_48 : decode cX12_says 48 = .ok (.if_icmp .ne 7, 3) := by decide +kernel
theorem dX12_says_51 : decode cX12_says 51 = .ok (.iconst 1, 1) := by decide +kernel
theorem dX12_says_52 : decode cX12_says 52 = .ok (.goto 4, 3) := by decide +kernel
theorem dX12_says_55 : decode cX12_says 55 = .ok (.iconst 0, 1) := by decide +kernel
theorem dX12_says_56 : decode cX12_says 56 = .ok (.invokestatic 392, 3) := by decide +kernel
theorem dX12_says_59 : decode cX12_says 59 = .ok (.lastore, 1) := by decide +kernel
theorem dX12_says_60 : decode cX12_says 60 = .ok (.aload_n 0, 1) := by decide +kernel
theorem dX12_says_61 : decode cX12_says 61 = .ok (.getfield 135, 3) := by decide +kernel
theorem dX12_says_64 : decode cX12_says 64 = .ok (.iconst 3, 1) := by decide +kernel
theorem dX12_says_65 : decode cX12_says 65 = .ok (.aload_n 0, 1) := by decide +kernel
theorem dX12_says_66 : decode cX12_says 66 = .ok (.getfield 87, 3) := by decide +kernel
theorem dX12_says_69 : decode cX12_says 69 = .ok (.iload_n 1, 1) := by decide +kernel
theorem dX12_says_70 : decode cX12_says 70 = .ok (.iaload, 1) := by decide +kernel
theorem dX12_says_71 : decode cX12_says 71 = .ok (.i2l, 1) := by decide +kernel
theorem dX12_says_72 : decode cX12_says 72 = .ok (.lastore, 1) := by decide +kernel
theorem dX12_says_73 : decode cX12_says 73 = .ok (.aload_n 0, 1) := by decide +kernel
theorem dX12_says_74 : decode cX12_says 74 = .ok (.getfield 135, 3) := by decide +kernel
theorem dX12_says_77 : decode cX12_says 77 = .ok (.iconst 4, 1) := by decide +kernel
theorem dX12_says_78 : decode cX12_says 78 = .ok (.iload 5, 2) := by decide +kernel
theorem dX12_says_80 : decode cX12_says 80 = .ok (.i2l, 1) := by decide +kernel
theorem dX12_says_81 : decode cX12_says 81 = .ok (.lastore, 1) := by decide +kernel
theorem dX12_says_82 : decode cX12_says 82 = .ok (.aload_n 0, 1) := by decide +kernel
theorem dX12_says_83 : decode cX12_says 83 = .ok (.getfield 135, 3) := by decide +kernel
theorem dX12_says_86 : decode cX12_says 86 = .ok (.iconst 5, 1) := by decide +kernel
theorem dX12_says_87 : decode cX12_says 87 = .ok (.aload_n 0, 1) := by decide +kernel
theorem dX12_says_88 : decode cX12_says 88 = .ok (.getfield 108, 3) := by decide +kernel
theorem dX12_says_91 : decode cX12_says 91 = .ok (.bipush 9, 2) := by decide +kernel
theorem dX12_says_93 : decode cX12_says 93 = .ok (.iload_n 1, 1) := by decide +kernel
theorem dX12_says_94 : decode cX12_says 94 = .ok (.imul, 1) := by decide +kernel
theorem dX12_says_95 : decode cX12_says 95 = .ok (.iload_n 2, 1) := by decide +kernel
theorem dX12_says_96 : decode cX12_says 96 = .ok (.iadd, 1) := by decide +kernel
theorem dX12_says_97 : decode cX12_says 97 = .ok (.iaload, 1) := by decide +kernel
theorem dX12_says_98 : decode cX12_says 98 = .ok (.i2l, 1) := by decide +kernel
theorem dX12_says_99 : decode cX12_says 99 = .ok (.lastore, 1) := by decide +kernel
theorem dX12_says_100 : decode cX12_says 100 = .ok (.aload_n 0, 1) := by decide +kernel
theorem dX12_says_101 : decode cX12_says 101 = .ok (.getfield 135, 3) := by decide +kernel
theorem dX12_says_104 : decode cX12_says 104 = .ok (.bipush 6, 2) := by decide +kernel
theorem dX12_says_106 : decode cX12_says 106 = .ok (.iload 6, 2) := by decide +kernel
theorem dX12_says_108 : decode cX12_says 108 = .ok (.i2l, 1) := by decide +kernel
theorem dX12_says_109 : decode cX12_says 109 = .ok (.lastore, 1) := by decide +kernel
theorem dX12_says_110 : decode cX12_says 110 = .ok (.aload_n 0, 1) := by decide +kernel
theorem dX12_says_111 : decode cX12_says 111 = .ok (.iload_n 2, 1) := by decide +kernel
theorem dX12_says_112 : decode cX12_says 112 = .ok (.invokevirtual 412, 3) := by decide +kernel
theorem dX12_says_115 : decode cX12_says 115 = .ok (.ireturn, 1) := by decide +kernel
noncomputable def b_X12_says_0 (rec : Rk) (x1 x2 x3 x4 x5 x6 : Int) (h : Hp) : Option (Int × Hp) :=
  ck (0 ≤ (0 : Int) ∧ (0 : Int) < 7) <|
  lt (sI h 98 0 0 x3) fun h1 =>
  ck (-2147483648 ≤ 64 * x4 ∧ 64 * x4 < 2147483648) <|
  ck (0 ≤ (4 : Int) ∧ (4 : Int) < 30) <|
  ck (-2147483648 ≤ (64 * x4) + (gI h1 61 0 4) ∧ (64 * x4) + (gI h1 61 0 4) < 2147483648) <|
  ck (0 ≤ ((64 * x4) + (gI h1 61 0 4)) ∧ ((64 * x4) + (gI h1 61 0 4)) < 4096) <|
  ck (0 ≤ (1 : Int) ∧ (1 : Int) < 7) <|
  lt (sI h1 98 0 1 (gI h1 83 0 ((64 * x4) + (gI h1 61 0 4)))) fun h2 =>
  ck (0 ≤ x1 ∧ x1 < 23) <|
  bd (f_X12_windOf (gI h2 84 0 x1) h2) fun v3 h4 =>
  if x3 = v3 then (
    rec 1 [x1, x2, x5, x6, 1, 2] h4
  ) else (
    rec 1 [x1, x2, x5, x6, 0, 2] h4
  )
noncomputable def b_X12_says_1 (rec : Rk) (x1 x2 x5 x6 y0 y1 : Int) (h : Hp) : Option (Int × Hp) :=
  bd (f_X12_is y0 h) fun v1 h2 =>
  ck (0 ≤ y1 ∧ y1 < 7) <|
  lt (sI h2 98 0 y1 v1) fun h3 =>
  ck (0 ≤ x1 ∧ x1 < 23) <|
  ck (0 ≤ (3 : Int) ∧ (3 : Int) < 7) <|
  lt (sI h3 98 0 3 (gI h3 84 0 x1)) fun h4 =>
  ck (0 ≤ (4 : Int) ∧ (4 : Int) < 7) <|
  lt (sI h4 98 0 4 x5) fun h5 =>
  ck (-2147483648 ≤ 9 * x1 ∧ 9 * x1 < 2147483648) <|
  ck (-2147483648 ≤ (9 * x1) + x2 ∧ (9 * x1) + x2 < 2147483648) <|
  ck (0 ≤ ((9 * x1) + x2) ∧ ((9 * x1) + x2) < 207) <|
  ck (0 ≤ (5 : Int) ∧ (5 : Int) < 7) <|
  lt (sI h5 98 0 5 (gI h5 91 0 ((9 * x1) + x2))) fun h6 =>
  ck (0 ≤ (6 : Int) ∧ (6 : Int) < 7) <|
  lt (sI h6 98 0 6 x6) fun h7 =>
  bd (f_X12_goes x2 h7) fun v8 h9 =>
  ck (0 ≤ v8 ∧ v8 < 2) <|
  some (v8, h9)
noncomputable def g_X12_says (n : Nat) : Rk := Nat.rec (motive := fun _ => Rk) (fun _ _ _ => none) (fun _ rec k l h => if k = 0 then b_X12_says_0 rec (l.getD 0 0) (l.getD 1 0) (l.getD 2 0) (l.getD 3 0) (l.getD 4 0) (l.getD 5 0) h else if k = 1 then b_X12_says_1 rec (l.getD 0 0) (l.getD 1 0) (l.getD 2 0) (l.getD 3 0) (l.getD 4 0) (l.getD 5 0) h else none) n
noncomputable def f_X12_says (x1 x2 x3 x4 x5 x6 : Int) (h : Hp) : Option (Int × Hp) := g_X12_says FU 0 [x1, x2, x3, x4, x5, x6] h
set_option maxHeartbeats 4000000 in
set_option maxRecDepth 100000 in
theorem t_X12_says_0 (E : xE) (d : Nat) (rec : Rk) (r : Int × Hp) (hr_56 : ∀ (x1 x2 x5 x6 y0 y1 : Int) (h : Hp), Lay h → rec 1 [x1, x2, x5, x6, y0, y1] h = some r → X E mX12_says (d + 4) (0, 0) (0, 0) 56 [some (xr 12 0), some (xi x1), some (xi x2), none, none, some (xi x5), some (xi x6)] [xi y0, xi y1, xr 98 0] h (PoI r)) (x1 x2 x3 x4 x5 x6 : Int) (h : Hp) (hL : Lay h) (hF : b_X12_says_0 rec x1 x2 x3 x4 x5 x6 h = some r) : X E mX12_says (d + 4) (0, 0) (0, 0) 0 [some (xr 12 0), some (xi x1), some (xi x2), some (xi x3), some (xi x4), some (xi x5), some (xi x6)] [] h (PoI r) := by
  unfold b_X12_says_0 at hF
  refine x_aload_n (i := 0) (b := 1) dX12_says_0 rfl rfl rfl ?_
  refine x_getL (j := 0) (t := (98, 0, true)) (b := 4) fk_X12_135 dX12_says_1 rfl hL rfl rfl rfl ?_
  refine x_iconst (n := 0) (b := 5) dX12_says_4 (by decide) rfl ?_
  refine x_iload_n (i := 3) (b := 6) dX12_says_5 rfl rfl rfl ?_
  refine x_i2l (b := 7) dX12_says_6 rfl ?_
  obtain ⟨hs, hF⟩ := ck_e hF
  have hs1 := hs
  refine x_last (b := 8) ak_98 dX12_says_7 hs1 rfl ?_
  obtain ⟨h1, e_h1, hF⟩ := lt_e hF
  refine x_hp (h2 := h1) e_h1 ?_
  replace hL : Lay h1 := by rw [← e_h1]; exact hL
  refine x_aload_n (i := 0) (b := 9) dX12_says_8 rfl rfl rfl ?_
  refine x_getL (j := 0) (t := (98, 0, true)) (b := 12) fk_X12_135 dX12_says_9 rfl hL rfl rfl rfl ?_
  refine x_iconst (n := 1) (b := 13) dX12_says_12 (by decide) rfl ?_
  refine x_aload_n (i := 0) (b := 14) dX12_says_13 rfl rfl rfl ?_
  refine x_getL (j := 0) (t := (83, 0, true)) (b := 17) fk_X12_84 dX12_says_14 rfl hL rfl rfl rfl ?_
  refine x_bipush (n := 64) (b := 19) dX12_says_17 (by decide) rfl ?_
  refine x_iload (i := 4) (b := 21) dX12_says_19 rfl rfl ?_
  obtain ⟨hs, hF⟩ := ck_e hF
  refine x_imul (b := 22) dX12_says_21 hs rfl ?_
  refine x_aload_n (i := 0) (b := 23) dX12_says_22 rfl rfl rfl ?_
  refine x_getL (j := 0) (t := (61, 0, true)) (b := 26) fk_X12_13 dX12_says_23 rfl hL rfl rfl rfl ?_
  refine x_iconst (n := 4) (b := 27) dX12_says_26 (by decide) rfl ?_
  obtain ⟨hs, hF⟩ := ck_e hF
  refine x_iald (v := gI h1 61 0 4) (b := 28) ak_61 dX12_says_27 hs rfl rfl ?_
  obtain ⟨hs, hF⟩ := ck_e hF
  refine x_iadd (b := 29) dX12_says_28 hs rfl ?_
  obtain ⟨hs, hF⟩ := ck_e hF
  refine x_iald (v := gI h1 83 0 ((64 * x4) + (gI h1 61 0 4))) (b := 30) ak_83 dX12_says_29 hs rfl rfl ?_
  refine x_i2l (b := 31) dX12_says_30 rfl ?_
  obtain ⟨hs, hF⟩ := ck_e hF
  have hs1 := hs
  refine x_last (b := 32) ak_98 dX12_says_31 hs1 rfl ?_
  obtain ⟨h2, e_h2, hF⟩ := lt_e hF
  refine x_hp (h2 := h2) e_h2 ?_
  replace hL : Lay h2 := by rw [← e_h2]; exact hL
  refine x_aload_n (i := 0) (b := 33) dX12_says_32 rfl rfl rfl ?_
  refine x_getL (j := 0) (t := (98, 0, true)) (b := 36) fk_X12_135 dX12_says_33 rfl hL rfl rfl rfl ?_
  refine x_iconst (n := 2) (b := 37) dX12_says_36 (by decide) rfl ?_
  refine x_iload_n (i := 3) (b := 38) dX12_says_37 rfl rfl rfl ?_
  refine x_aload_n (i := 0) (b := 39) dX12_says_38 rfl rfl rfl ?_
  refine x_aload_n (i := 0) (b := 40) dX12_says_39 rfl rfl rfl ?_
  refine x_getL (j := 0) (t := (84, 0, true)) (b := 43) fk_X12_87 dX12_says_40 rfl hL rfl rfl rfl ?_
  refine x_iload_n (i := 1) (b := 44) dX12_says_43 rfl rfl rfl ?_
  obtain ⟨hs, hF⟩ := ck_e hF
  refine x_iald (v := gI h2 84 0 x1) (b := 45) ak_84 dX12_says_44 hs rfl rfl ?_
  obtain ⟨v3, h4, hq, hF⟩ := bd_e hF
  refine x_callV (as := [xi (gI h2 84 0 x1)]) (rest := [xi x3, xi 2, xr 98 0]) (b := 48) (c_X12_windOf (d + 2) (gI h2 84 0 x1) h2 _ hL hq) dX12_says_45 cw_X12_409 ⟨_, _, rfl, Nat.le_of_ble_eq_true rfl⟩ rfl rfl (Nat.le_of_ble_eq_true rfl) ⟨Nat.le_refl _, Nat.le_refl _⟩ rfl (fun rv hh hp _ => ?_)
  obtain ⟨rfl, rfl, hL⟩ := hp
  refine x_icmp_ne (tgt := 55) (b := 51) dX12_says_48 (by decide) rfl (fun hc => ?_) (fun hc => ?_)
  · replace hF := br_F hc hF
    refine x_iconst (n := 0) (b := 56) dX12_says_55 (by decide) rfl ?_
    exact x_dp (ls2 := [some (xr 12 0), some (xi x1), some (xi x2), none, none, some (xi x5), some (xi x6)]) ⟨rfl, rfl, rfl, rfl, rfl, trivial⟩ (hr_56 x1 x2 x5 x6 0 2 h4 hL hF)
  · replace hF := br_T hc hF
    refine x_iconst (n := 1) (b := 52) dX12_says_51 (by decide) rfl ?_
    refine x_goto (tgt := 56) dX12_says_52 (by decide) ?_
    exact x_dp (ls2 := [some (xr 12 0), some (xi x1), some (xi x2), none, none, some (xi x5), some (xi x6)]) ⟨rfl, rfl, rfl, rfl, rfl, trivial⟩ (hr_56 x1 x2 x5 x6 1 2 h4 hL hF)
set_option maxHeartbeats 4000000 in
set_option maxRecDepth 100000 in
theorem t_X12_says_1 (E : xE) (d : Nat) (rec : Rk) (r : Int × Hp) (x1 x2 x5 x6 y0 y1 : Int) (h : Hp) (hL : Lay h) (hF : b_X12_says_1 rec x1 x2 x5 x6 y0 y1 h = some r) : X E mX12_says (d + 4) (0, 0) (0, 0) 56 [some (xr 12 0), some (xi x1), some (xi x2), none, none, some (xi x5), some (xi x6)] [xi y0, xi y1, xr 98 0] h (PoI r) := by
  unfold b_X12_says_1 at hF
  obtain ⟨v1, h2, hq, hF⟩ := bd_e hF
  refine x_callS (as := [xi y0]) (rest := [xi y1, xr 98 0]) (b := 59) (c_X12_is (d + 2) y0 h _ hL hq) dX12_says_56 cw_X12_392 rfl rfl (Nat.le_of_ble_eq_true rfl) ⟨Nat.le_refl _, Nat.le_refl _⟩ rfl (fun rv hh hp _ => ?_)
  obtain ⟨rfl, rfl, hL⟩ := hp
  obtain ⟨hs, hF⟩ := ck_e hF
  have hs1 := hs
  refine x_last (b := 60) ak_98 dX12_says_59 hs1 rfl ?_
  obtain ⟨h3, e_h3, hF⟩ := lt_e hF
  refine x_hp (h2 := h3) e_h3 ?_
  replace hL : Lay h3 := by rw [← e_h3]; exact hL
  refine x_aload_n (i := 0) (b := 61) dX12_says_60 rfl rfl rfl ?_
  refine x_getL (j := 0) (t := (98, 0, true)) (b := 64) fk_X12_135 dX12_says_61 rfl hL rfl rfl rfl ?_
  refine x_iconst (n := 3) (b := 65) dX12_says_64 (by decide) rfl ?_
  refine x_aload_n (i := 0) (b := 66) dX12_says_65 rfl rfl rfl ?_
  refine x_getL (j := 0) (t := (84, 0, true)) (b := 69) fk_X12_87 dX12_says_66 rfl hL rfl rfl rfl ?_
  refine x_iload_n (i := 1) (b := 70) dX12_says_69 rfl rfl rfl ?_
  obtain ⟨hs, hF⟩ := ck_e hF
  refine x_iald (v := gI h3 84 0 x1) (b := 71) ak_84 dX12_says_70 hs rfl rfl ?_
  refine x_i2l (b := 72) dX12_says_71 rfl ?_
  obtain ⟨hs, hF⟩ := ck_e hF
  have hs1 := hs
  refine x_last (b := 73) ak_98 dX12_says_72 hs1 rfl ?_
  obtain ⟨h4, e_h4, hF⟩ := lt_e hF
  refine x_hp (h2 := h4) e_h4 ?_
  replace hL : Lay h4 := by rw [← e_h4]; exact hL
  refine x_aload_n (i := 0) (b := 74) dX12_says_73 rfl rfl rfl ?_
  refine x_getL (j := 0) (t := (98, 0, true)) (b := 77) fk_X12_135 dX12_says_74 rfl hL rfl rfl rfl ?_
  refine x_iconst (n := 4) (b := 78) dX12_says_77 (by decide) rfl ?_
  refine x_iload (i := 5) (b := 80) dX12_says_78 rfl rfl ?_
  refine x_i2l (b := 81) dX12_says_80 rfl ?_
  obtain ⟨hs, hF⟩ := ck_e hF
  have hs1 := hs
  refine x_last (b := 82) ak_98 dX12_says_81 hs1 rfl ?_
  obtain ⟨h5, e_h5, hF⟩ := lt_e hF
  refine x_hp (h2 := h5) e_h5 ?_
  replace hL : Lay h5 := by rw [← e_h5]; exact hL
  refine x_aload_n (i := 0) (b := 83) dX12_says_82 rfl rfl rfl ?_
  refine x_getL (j := 0) (t := (98, 0, true)) (b := 86) fk_X12_135 dX12_says_83 rfl hL rfl rfl rfl ?_
  refine x_iconst (n := 5) (b := 87) dX12_says_86 (by decide) rfl ?_
  refine x_aload_n (i := 0) (b := 88) dX12_says_87 rfl rfl rfl ?_
  refine x_getL (j := 0) (t := (91, 0, true)) (b := 91) fk_X12_108 dX12_says_88 rfl hL rfl rfl rfl ?_
  refine x_bipush (n := 9) (b := 93) dX12_says_91 (by decide) rfl ?_
  refine x_iload_n (i := 1) (b := 94) dX12_says_93 rfl rfl rfl ?_
  obtain ⟨hs, hF⟩ := ck_e hF
  refine x_imul (b := 95) dX12_says_94 hs rfl ?_
  refine x_iload_n (i := 2) (b := 96) dX12_says_95 rfl rfl rfl ?_
  obtain ⟨hs, hF⟩ := ck_e hF
  refine x_iadd (b := 97) dX12_says_96 hs rfl ?_
  obtain ⟨hs, hF⟩ := ck_e hF
  refine x_iald (v := gI h5 91 0 ((9 * x1) + x2)) (b := 98) ak_91 dX12_says_97 hs rfl rfl ?_
  refine x_i2l (b := 99) dX12_says_98 rfl ?_
  obtain ⟨hs, hF⟩ := ck_e hF
  have hs1 := hs
  refine x_last (b := 100) ak_98 dX12_says_99 hs1 rfl ?_
  obtain ⟨h6, e_h6, hF⟩ := lt_e hF
  refine x_hp (h2 := h6) e_h6 ?_
  replace hL : Lay h6 := by rw [← e_h6]; exact hL
  refine x_aload_n (i := 0) (b := 101) dX12_says_100 rfl rfl rfl ?_
  refine x_getL (j := 0) (t := (98, 0, true)) (b := 104) fk_X12_135 dX12_says_101 rfl hL rfl rfl rfl ?_
  refine x_bipush (n := 6) (b := 106) dX12_says_104 (by decide) rfl ?_
  refine x_iload (i := 6) (b := 108) dX12_says_106 rfl rfl ?_
  refine x_i2l (b := 109) dX12_says_108 rfl ?_
  obtain ⟨hs, hF⟩ := ck_e hF
  have hs1 := hs
  refine x_last (b := 110) ak_98 dX12_says_109 hs1 rfl ?_
  obtain ⟨h7, e_h7, hF⟩ := lt_e hF
  refine x_hp (h2 := h7) e_h7 ?_
  replace hL : Lay h7 := by rw [← e_h7]; exact hL
  refine x_aload_n (i := 0) (b := 111) dX12_says_110 rfl rfl rfl ?_
  refine x_iload_n (i := 2) (b := 112) dX12_says_111 rfl rfl rfl ?_
  obtain ⟨v8, h9, hq, hF⟩ := bd_e hF
  refine x_callV (as := [xi x2]) (rest := []) (b := 115) (c_X12_goes d x2 h7 _ hL hq) dX12_says_112 cw_X12_412 ⟨_, _, rfl, Nat.le_of_ble_eq_true rfl⟩ rfl rfl (Nat.le_of_ble_eq_true rfl) ⟨Nat.le_refl _, Nat.le_refl _⟩ rfl (fun rv hh hp _ => ?_)
  obtain ⟨rfl, rfl, hL⟩ := hp
  obtain ⟨hs, hF⟩ := ck_e hF
  refine x_zreturn dX12_says_115 rfl ⟨Nat.le_refl _, Nat.le_refl _⟩ hs ?_
  cases hF
  exact ⟨rfl, rfl, hL⟩
set_option maxHeartbeats 4000000 in
set_option maxRecDepth 100000 in
theorem u_X12_says (E : xE) (d : Nat) (r : Int × Hp) : ∀ n : Nat, (∀ (x1 x2 x3 x4 x5 x6 : Int) (h : Hp), Lay h → g_X12_says n 0 [x1, x2, x3, x4, x5, x6] h = some r → X E mX12_says (d + 4) (0, 0) (0, 0) 0 [some (xr 12 0), some (xi x1), some (xi x2), some (xi x3), some (xi x4), some (xi x5), some (xi x6)] [] h (PoI r)) ∧ (∀ (x1 x2 x5 x6 y0 y1 : Int) (h : Hp), Lay h → g_X12_says n 1 [x1, x2, x5, x6, y0, y1] h = some r → X E mX12_says (d + 4) (0, 0) (0, 0) 56 [some (xr 12 0), some (xi x1), some (xi x2), none, none, some (xi x5), some (xi x6)] [xi y0, xi y1, xr 98 0] h (PoI r)) := by
  intro n
  induction n with
  | zero => exact ⟨fun _ _ _ _ _ _ _ _ hF => no_e (r := r) hF, fun _ _ _ _ _ _ _ _ hF => no_e (r := r) hF⟩
  | succ n ih => exact ⟨fun x1 x2 x3 x4 x5 x6 h hL hF => t_X12_says_0 E d (g_X12_says n) r ih.2 x1 x2 x3 x4 x5 x6 h hL hF, fun x1 x2 x5 x6 y0 y1 h hL hF => t_X12_says_1 E d (g_X12_says n) r  x1 x2 x5 x6 y0 y1 h hL hF⟩
theorem c_X12_says (d : Nat) (x1 x2 x3 x4 x5 x6 : Int) (h : Hp) (r : Int × Hp) (hL : Lay h) (hF : f_X12_says x1 x2 x3 x4 x5 x6 h = some r) : Sp mX12_says (d + 4) (0, 0) [xr 12 0, xi x1, xi x2, xi x3, xi x4, xi x5, xi x6] h (PoI r) :=
  sp_of (by decide) rfl (Nat.le_of_ble_eq_true rfl) (ls := [some (xr 12 0), some (xi x1), some (xi x2), some (xi x3), some (xi x4), some (xi x5), some (xi x6)]) rfl (fun E _ => (u_X12_says E d r FU).1 x1 x2 x3 x4 x5 x6 h hL hF)
theorem dX12_votesFor_0 : decode cX12_votesFor 0 = .ok (.iconst (-1), 1) := by decide +kernel
theorem dX12_votesFor_1 : decode cX12_votesFor 1 = .ok (.istore 5, 2) := by decide +kernel
theorem dX12_votesFor_3 : decode cX12_votesFor 3 = .ok (.lconst 0, 1) := by decide +kernel
theorem dX12_votesFor_4 : decode cX12_votesFor 4 = .ok (.lstore 6, 2) := by decide +kernel
theorem dX12_votesFor_6 : decode cX12_votesFor 6 = .ok (.iconst 0, 1) := by decide +kernel
theorem dX12_votesFor_7 : decode cX12_votesFor 7 = .ok (.istore 8, 2) := by decide +kernel
theorem dX12_votesFor_9 : decode cX12_votesFor 9 = .ok (.iload 8, 2) := by decide +kernel
theorem dX12_votesFor_11 : decode cX12_votesFor 11 = .ok (.iconst 4, 1) := by decide +kernel
theorem dX12_votesFor_12 : decode cX12_votesFor 12 = .ok (.if_icmp .ge 95, 3) := by decide +kernel
theorem dX12_votesFor_15 : decode cX12_votesFor 15 = .ok (.aload_n 0, 1) := by decide +kernel
theorem dX12_votesFor_16 : decode cX12_votesFor 16 = .ok (.aload_n 0, 1) := by decide +kernel
theorem dX12_votesFor_17 : decode cX12_votesFor 17 = .ok (.getfield 90, 3) := by decide +kernel
theorem dX12_votesFor_20 : decode cX12_votesFor 20 = .ok (.iload_n 1, 1) := by decide +kernel
theorem dX12_votesFor_21 : decode cX12_votesFor 21 = .ok (.iaload, 1) := by decide +kernel
theorem dX12_votesFor_22 : decode cX12_votesFor 22 = .ok (.iload 8, 2) := by decide +kernel
theorem dX12_votesFor_24 : decode cX12_votesFor 24 = .ok (.invokevirtual 377, 3) := by decide +kernel
theorem dX12_votesFor_27 : decode cX12_votesFor 27 = .ok (.istore 9, 2) := by decide +kernel
theorem dX12_votesFor_29 : decode cX12_votesFor 29 = .ok (.iload 9, 2) := by decide +kernel
theorem dX12_votesFor_31 : decode cX12_votesFor 31 = .ok (.iconst (-1), 1) := by decide +kernel
theorem dX12_votesFor_32 : decode cX12_votesFor 32 = .ok (.if_icmp .eq 69, 3) := by decide +kernel
theorem dX12_votesFor_35 : decode cX12_votesFor 35 = .ok (.aload_n 0, 1) := by decide +kernel
theorem dX12_votesFor_36 : decode cX12_votesFor 36 = .ok (.getfield 16, 3) := by decide +kernel
theorem dX12_votesFor_39 : decode cX12_votesFor 39 = .ok (.iload 9, 2) := by decide +kernel
theorem dX12_votesFor_41 : decode cX12_votesFor 41 = .ok (.baload, 1) := by decide +kernel
theorem dX12_votesFor_42 : decode cX12_votesFor 42 = .ok (.ifCond .eq 6, 3) := by decide +kernel
theorem dX12_votesFor_45 : decode cX12_votesFor 45 = .ok (.goto 56, 3) := by decide +kernel
theorem dX12_votesFor_48 : decode cX12_votesFor 48 = .ok (.aload_n 0, 1) := by decide +kernel
theorem dX12_votesFor_49 : decode cX12_votesFor 49 = .ok (.iload_n 1, 1) := by decide +kernel
theorem dX12_votesFor_50 : decode cX12_votesFor 50 = .ok (.iload_n 2, 1) := by decide +kernel
theorem dX12_votesFor_51 : decode cX12_votesFor 51 = .ok (.iload 8, 2) := by decide +kernel
theorem dX12_votesFor_53 : decode cX12_votesFor 53 = .ok (.iload 9, 2) := by decide +kernel
theorem dX12_votesFor_55 : decode cX12_votesFor 55 = .ok (.iload_n 3, 1) := by decide +kernel
theorem dX12_votesFor_56 : decode cX12_votesFor 56 = .ok (.iload 4, 2) := by decide +kernel
theorem dX12_votesFor_58 : decode cX12_votesFor 58 = .ok (.invokevirtual 415, 3) := by decide +kernel
theorem dX12_votesFor_61 : decode cX12_votesFor 61 = .ok (.ifCond .eq 12, 3) := by decide +kernel
theorem dX12_votesFor_64 : decode cX12_votesFor 64 = .ok (.aload_n 0, 1) := by decide +kernel
theorem dX12_votesFor_65 : decode cX12_votesFor 65 = .ok (.getfield 139, 3) := by decide +kernel
theorem dX12_votesFor_68 : decode cX12_votesFor 68 = .ok (.iconst 0, 1) := by decide +kernel
theorem dX12_votesFor_69 : decode cX12_votesFor 69 = .ok (.laload, 1) := by decide +kernel
theorem dX12_votesFor_70 : decode cX12_votesFor 70 = .ok (.goto 4, 3) := by decide +kernel
theorem dX12_votesFor_73 : decode cX12_votesFor 73 = .ok (.lconst 0, 1) := by decide +kernel
theorem dX12_votesFor_74 : decode cX12_votesFor 74 = .ok (.lstore 10, 2) := by decide +kernel
theorem dX12_votesFor_76 : decode cX12_votesFor 76 = .ok (.iload 5, 2) := by decide +kernel
theorem dX12_votesFor_78 : decode cX12_votesFor 78 = .ok (.iconst (-1), 1) := by decide +kernel
theorem dX12_votesFor_79 : decode cX12_votesFor 79 = .ok (.if_icmp .eq 14, 3) := by decide +kernel
theorem dX12_votesFor_82 : decode cX12_votesFor 82 = .ok (.lload 10, 2) := by decide +kernel
theorem dX12_votesFor_84 : decode cX12_votesFor 84 = .ok (.lload 6, 2) := by decide +kernel
theorem dX12_votesFor_86 : decode cX12_votesFor 86 = .ok (.lcmp, 1) := by decide +kernel
theorem dX12_votesFor_87 : decode cX12_votesFor 87 = .ok (.ifCond .gt 6, 3) := by decide +kernel
theorem dX12_votesFor_90 : decode cX12_votesFor 90 = .ok (.goto 11, 3) := by decide +kernel
theorem dX12_votesFor_93 : decode cX12_votesFor 93 = .ok (.iload 8, 2) := by decide +kernel
theorem dX12_votesFor_95 : decode cX12_votesFor 95 = .ok (.istore 5, 2) := by decide +kernel
theorem dX12_votesFor_97 : decode cX12_votesFor 97 = .ok (.lload 10, 2) := by decide +kernel
theorem dX12_votesFor_99 : decode cX12_votesFor 99 = .ok (.lstore 6, 2) := by decide +kernel
theorem dX12_votesFor_101 : decode cX12_votesFor 101 = .ok (.iinc 8 1, 3) := by decide +kernel
theorem dX12_votesFor_104 : decode cX12_votesFor 104 = .ok (.goto (-95), 3) := by decide +kernel
theorem dX12_votesFor_107 : decode cX12_votesFor 107 = .ok (.iload 5, 2) := by decide +kernel
theorem dX12_votesFor_109 : decode cX12_votesFor 109 = .ok (.ireturn, 1) := by decide +kernel
noncomputable def b_X12_votesFor_0 (rec : Rk) (x1 x2 x3 x4 : Int) (h : Hp) : Option (Int × Hp) :=
  rec 1 [x1, x2, x3, x4, (-1), 0, 0] h
noncomputable def b_X12_votesFor_1 (rec : Rk) (x1 x2 x3 x4 x5 x6 x8 : Int) (h : Hp) : Option (Int × Hp) :=
  if 4 ≤ x8 then (
    some (x5, h)
  ) else (
    ck (0 ≤ x1 ∧ x1 < 23) <|
    bd (f_X12_leads (gI h 85 0 x1) x8 h) fun v1 h2 =>
    if v1 = (-1) then (
      rec 4 [x1, x2, x3, x4, x5, x6, x8] h2
    ) else (
      ck (0 ≤ v1 ∧ v1 < 128) <|
      if (gI h2 62 0 v1) = 0 then (
        bd (f_X12_says x1 x2 x8 v1 x3 x4 h2) fun v3 h4 =>
        if v3 = 0 then (
          rec 2 [x1, x2, x3, x4, x5, x6, x8, 0] h4
        ) else (
          ck (0 ≤ (0 : Int) ∧ (0 : Int) < 64) <|
          rec 2 [x1, x2, x3, x4, x5, x6, x8, gI h4 99 0 0] h4
        )
      ) else (
        rec 4 [x1, x2, x3, x4, x5, x6, x8] h2
      )
    )
  )
noncomputable def b_X12_votesFor_2 (rec : Rk) (x1 x2 x3 x4 x5 x6 x8 y0 : Int) (h : Hp) : Option (Int × Hp) :=
  if x5 = (-1) then (
    rec 3 [x1, x2, x3, x4, x8, y0] h
  ) else (
    if 0 < (lc y0 x6) then (
      rec 3 [x1, x2, x3, x4, x8, y0] h
    ) else (
      rec 4 [x1, x2, x3, x4, x5, x6, x8] h
    )
  )
noncomputable def b_X12_votesFor_3 (rec : Rk) (x1 x2 x3 x4 x8 x10 : Int) (h : Hp) : Option (Int × Hp) :=
  rec 4 [x1, x2, x3, x4, x8, x10, x8] h
noncomputable def b_X12_votesFor_4 (rec : Rk) (x1 x2 x3 x4 x5 x6 x8 : Int) (h : Hp) : Option (Int × Hp) :=
  ck (-2147483648 ≤ x8 + 1 ∧ x8 + 1 < 2147483648) <|
  rec 1 [x1, x2, x3, x4, x5, x6, x8 + 1] h
noncomputable def g_X12_votesFor (n : Nat) : Rk := Nat.rec (motive := fun _ => Rk) (fun _ _ _ => none) (fun _ rec k l h => if k = 0 then b_X12_votesFor_0 rec (l.getD 0 0) (l.getD 1 0) (l.getD 2 0) (l.getD 3 0) h else if k = 1 then b_X12_votesFor_1 rec (l.getD 0 0) (l.getD 1 0) (l.getD 2 0) (l.getD 3 0) (l.getD 4 0) (l.getD 5 0) (l.getD 6 0) h else if k = 2 then b_X12_votesFor_2 rec (l.getD 0 0) (l.getD 1 0) (l.getD 2 0) (l.getD 3 0) (l.getD 4 0) (l.getD 5 0) (l.getD 6 0) (l.getD 7 0) h else if k = 3 then b_X12_votesFor_3 rec (l.getD 0 0) (l.getD 1 0) (l.getD 2 0) (l.getD 3 0) (l.getD 4 0) (l.getD 5 0) h else if k = 4 then b_X12_votesFor_4 rec (l.getD 0 0) (l.getD 1 0) (l.getD 2 0) (l.getD 3 0) (l.getD 4 0) (l.getD 5 0) (l.getD 6 0) h else none) n
noncomputable def f_X12_votesFor (x1 x2 x3 x4 : Int) (h : Hp) : Option (Int × Hp) := g_X12_votesFor FU 0 [x1, x2, x3, x4] h
set_option maxHeartbeats 4000000 in
set_option maxRecDepth 100000 in
theorem t_X12_votesFor_0 (E : xE) (d : Nat) (rec : Rk) (r : Int × Hp) (hr_9 : ∀ (x1 x2 x3 x4 x5 x6 x8 : Int) (h : Hp), Lay h → rec 1 [x1, x2, x3, x4, x5, x6, x8] h = some r → X E mX12_votesFor (d + 5) (0, 0) (0, 0) 9 [some (xr 12 0), some (xi x1), some (xi x2), some (xi x3), some (xi x4), some (xi x5), some (xl x6), none, some (xi x8), none, none, none] [] h (PoI r)) (x1 x2 x3 x4 : Int) (h : Hp) (hL : Lay h) (hF : b_X12_votesFor_0 rec x1 x2 x3 x4 h = some r) : X E mX12_votesFor (d + 5) (0, 0) (0, 0) 0 [some (xr 12 0), some (xi x1), some (xi x2), some (xi x3), some (xi x4), none, none, none, none, none, none, none] [] h (PoI r) := by
  unfold b_X12_votesFor_0 at hF
  refine x_iconst (n := (-1)) (b := 1) dX12_votesFor_0 (by decide) rfl ?_
  refine x_istore (i := 5) (b := 3) (ls2 := [some (xr 12 0), some (xi x1), some (xi x2), some (xi x3), some (xi x4), some (xi (-1)), none, none, none, none, none, none]) dX12_votesFor_1 (Nat.le_of_ble_eq_true rfl) rfl rfl ?_
  refine x_lconst (z := 0) (b := 4) dX12_votesFor_3 rfl (by decide) rfl ?_
  refine x_lstore (i := 6) (b := 6) (ls2 := [some (xr 12 0), some (xi x1), some (xi x2), some (xi x3), some (xi x4), some (xi (-1)), some (xl 0), none, none, none, none, none]) dX12_votesFor_4 (Nat.le_of_ble_eq_true rfl) rfl rfl ?_
  refine x_iconst (n := 0) (b := 7) dX12_votesFor_6 (by decide) rfl ?_
  refine x_istore (i := 8) (b := 9) (ls2 := [some (xr 12 0), some (xi x1), some (xi x2), some (xi x3), some (xi x4), some (xi (-1)), some (xl 0), none, some (xi 0), none, none, none]) dX12_votesFor_7 (Nat.le_of_ble_eq_true rfl) rfl rfl ?_
  exact x_dp (ls2 := [some (xr 12 0), some (xi x1), some (xi x2), some (xi x3), some (xi x4), some (xi (-1)), some (xl 0), none, some (xi 0), none, none, none]) ⟨rfl, rfl, rfl, rfl, rfl, rfl, rfl, rfl, trivial⟩ (hr_9 x1 x2 x3 x4 (-1) 0 0 h hL hF)
set_option maxHeartbeats 4000000 in
set_option maxRecDepth 100000 in
theorem t_X12_votesFor_1 (E : xE) (d : Nat) (rec : Rk) (r : Int × Hp) (hr_74 : ∀ (x1 x2 x3 x4 x5 x6 x8 y0 : Int) (h : Hp), Lay h → rec 2 [x1, x2, x3, x4, x5, x6, x8, y0] h = some r → X E mX12_votesFor (d + 5) (0, 0) (0, 0) 74 [some (xr 12 0), some (xi x1), some (xi x2), some (xi x3), some (xi x4), some (xi x5), some (xl x6), none, some (xi x8), none, none, none] [xl y0] h (PoI r)) (hr_101 : ∀ (x1 x2 x3 x4 x5 x6 x8 : Int) (h : Hp), Lay h → rec 4 [x1, x2, x3, x4, x5, x6, x8] h = some r → X E mX12_votesFor (d + 5) (0, 0) (0, 0) 101 [some (xr 12 0), some (xi x1), some (xi x2), some (xi x3), some (xi x4), some (xi x5), some (xl x6), none, some (xi x8), none, none, none] [] h (PoI r)) (x1 x2 x3 x4 x5 x6 x8 : Int) (h : Hp) (hL : Lay h) (hF : b_X12_votesFor_1 rec x1 x2 x3 x4 x5 x6 x8 h = some r) : X E mX12_votesFor (d + 5) (0, 0) (0, 0) 9 [some (xr 12 0), some (xi x1), some (xi x2), some (xi x3), some (xi x4), some (xi x5), some (xl x6), none, some (xi x8), none, none, none] [] h (PoI r) := by
  unfold b_X12_votesFor_1 at hF
  refine x_iload (i := 8) (b := 11) dX12_votesFor_9 rfl rfl ?_
  refine x_iconst (n := 4) (b := 12) dX12_votesFor_11 (by decide) rfl ?_
  refine x_icmp_ge (tgt := 107) (b := 15) dX12_votesFor_12 (by decide) rfl (fun hc => ?_) (fun hc => ?_)
  · replace hF := br_T hc hF
    refine x_iload (i := 5) (b := 109) dX12_votesFor_107 rfl rfl ?_
    refine x_ireturn dX12_votesFor_109 rfl ⟨Nat.le_refl _, Nat.le_refl _⟩ ?_
    cases hF
    exact ⟨rfl, rfl, hL⟩
  · replace hF := br_F hc hF
    refine x_aload_n (i := 0) (b := 16) dX12_votesFor_15 rfl rfl rfl ?_
    refine x_aload_n (i := 0) (b := 17) dX12_votesFor_16 rfl rfl rfl ?_
    refine x_getL (j := 0) (t := (85, 0, true)) (b := 20) fk_X12_90 dX12_votesFor_17 rfl hL rfl rfl rfl ?_
    refine x_iload_n (i := 1) (b := 21) dX12_votesFor_20 rfl rfl rfl ?_
    obtain ⟨hs, hF⟩ := ck_e hF
    refine x_iald (v := gI h 85 0 x1) (b := 22) ak_85 dX12_votesFor_21 hs rfl rfl ?_
    refine x_iload (i := 8) (b := 24) dX12_votesFor_22 rfl rfl ?_
    obtain ⟨v1, h2, hq, hF⟩ := bd_e hF
    refine x_callV (as := [xi (gI h 85 0 x1), xi x8]) (rest := []) (b := 27) (c_X12_leads (d + 3) (gI h 85 0 x1) x8 h _ hL hq) dX12_votesFor_24 cw_X12_377 ⟨_, _, rfl, Nat.le_of_ble_eq_true rfl⟩ rfl rfl (Nat.le_of_ble_eq_true rfl) ⟨Nat.le_refl _, Nat.le_refl _⟩ rfl (fun rv hh hp _ => ?_)
    obtain ⟨rfl, rfl, hL⟩ := hp
    refine x_istore (i := 9) (b := 29) (ls2 := [some (xr 12 0), some (xi x1), some (xi x2), some (xi x3), some (xi x4), some (xi x5), some (xl x6), none, some (xi x8), some (xi v1), none, none]) dX12_votesFor_27 (Nat.le_of_ble_eq_true rfl) rfl rfl ?_
    refine x_iload (i := 9) (b := 31) dX12_votesFor_29 rfl rfl ?_
    refine x_iconst (n := (-1)) (b := 32) dX12_votesFor_31 (by decide) rfl ?_
    refine x_icmp_eq (tgt := 101) (b := 35) dX12_votesFor_32 (by decide) rfl (fun hc => ?_) (fun hc => ?_)
    · replace hF := br_T hc hF
      exact x_dp (ls2 := [some (xr 12 0), some (xi x1), some (xi x2), some (xi x3), some (xi x4), some (xi x5), some (xl x6), none, some (xi x8), none, none, none]) ⟨rfl, rfl, rfl, rfl, rfl, rfl, rfl, rfl, trivial⟩ (hr_101 x1 x2 x3 x4 x5 x6 x8 h2 hL hF)
    · replace hF := br_F hc hF
      refine x_aload_n (i := 0) (b := 36) dX12_votesFor_35 rfl rfl rfl ?_
      refine x_getL (j := 0) (t := (62, 0, true)) (b := 39) fk_X12_16 dX12_votesFor_36 rfl hL rfl rfl rfl ?_
      refine x_iload (i := 9) (b := 41) dX12_votesFor_39 rfl rfl ?_
      obtain ⟨hs, hF⟩ := ck_e hF
      refine x_zald (v := gI h2 62 0 v1) (b := 42) ak_62 dX12_votesFor_41 hs rfl rfl ?_
      refine x_if_eq (tgt := 48) (b := 45) dX12_votesFor_42 (by decide) rfl (fun hc => ?_) (fun hc => ?_)
      · replace hF := br_T hc hF
        refine x_aload_n (i := 0) (b := 49) dX12_votesFor_48 rfl rfl rfl ?_
        refine x_iload_n (i := 1) (b := 50) dX12_votesFor_49 rfl rfl rfl ?_
        refine x_iload_n (i := 2) (b := 51) dX12_votesFor_50 rfl rfl rfl ?_
        refine x_iload (i := 8) (b := 53) dX12_votesFor_51 rfl rfl ?_
        refine x_iload (i := 9) (b := 55) dX12_votesFor_53 rfl rfl ?_
        refine x_iload_n (i := 3) (b := 56) dX12_votesFor_55 rfl rfl rfl ?_
        refine x_iload (i := 4) (b := 58) dX12_votesFor_56 rfl rfl ?_
        obtain ⟨v3, h4, hq, hF⟩ := bd_e hF
        refine x_callV (as := [xi x1, xi x2, xi x8, xi v1, xi x3, xi x4]) (rest := []) (b := 61) (c_X12_says d x1 x2 x8 v1 x3 x4 h2 _ hL hq) dX12_votesFor_58 cw_X12_415 ⟨_, _, rfl, Nat.le_of_ble_eq_true rfl⟩ rfl rfl (Nat.le_of_ble_eq_true rfl) ⟨Nat.le_refl _, Nat.le_refl _⟩ rfl (fun rv hh hp _ => ?_)
        obtain ⟨rfl, rfl, hL⟩ := hp
        refine x_if_eq (tgt := 73) (b := 64) dX12_votesFor_61 (by decide) rfl (fun hc => ?_) (fun hc => ?_)
        · replace hF := br_T hc hF
          refine x_lconst (z := 0) (b := 74) dX12_votesFor_73 rfl (by decide) rfl ?_
          exact x_dp (ls2 := [some (xr 12 0), some (xi x1), some (xi x2), some (xi x3), some (xi x4), some (xi x5), some (xl x6), none, some (xi x8), none, none, none]) ⟨rfl, rfl, rfl, rfl, rfl, rfl, rfl, rfl, trivial⟩ (hr_74 x1 x2 x3 x4 x5 x6 x8 0 h4 hL hF)
        · replace hF := br_F hc hF
          refine x_aload_n (i := 0) (b := 65) dX12_votesFor_64 rfl rfl rfl ?_
          refine x_getL (j := 0) (t := (99, 0, true)) (b := 68) fk_X12_139 dX12_votesFor_65 rfl hL rfl rfl rfl ?_
          refine x_iconst (n := 0) (b := 69) dX12_votesFor_68 (by decide) rfl ?_
          obtain ⟨hs, hF⟩ := ck_e hF
          refine x_lald (v := gI h4 99 0 0) (b := 70) ak_99 dX12_votesFor_69 hs rfl rfl ?_
          refine x_goto (tgt := 74) dX12_votesFor_70 (by decide) ?_
          exact x_dp (ls2 := [some (xr 12 0), some (xi x1), some (xi x2), some (xi x3), some (xi x4), some (xi x5), some (xl x6), none, some (xi x8), none, none, none]) ⟨rfl, rfl, rfl, rfl, rfl, rfl, rfl, rfl, trivial⟩ (hr_74 x1 x2 x3 x4 x5 x6 x8 (gI h4 99 0 0) h4 hL hF)
      · replace hF := br_F hc hF
        refine x_goto (tgt := 101) dX12_votesFor_45 (by decide) ?_
        exact x_dp (ls2 := [some (xr 12 0), some (xi x1), some (xi x2), some (xi x3), some (xi x4), some (xi x5), some (xl x6), none, some (xi x8), none, none, none]) ⟨rfl, rfl, rfl, rfl, rfl, rfl, rfl, rfl, trivial⟩ (hr_101 x1 x2 x3 x4 x5 x6 x8 h2 hL hF)
set_option maxHeartbeats 4000000 in
set_option maxRecDepth 100000 in
theorem t_X12_votesFor_2 (E : xE) (d : Nat) (rec : Rk) (r : Int × Hp) (hr_93 : ∀ (x1 x2 x3 x4 x8 x10 : Int) (h : Hp), Lay h → rec 3 [x1, x2, x3, x4, x8, x10] h = some r → X E mX12_votesFor (d + 5) (0, 0) (0, 0) 93 [some (xr 12 0), some (xi x1), some (xi x2), some (xi x3), some (xi x4), none, none, none, some (xi x8), none, some (xl x10), none] [] h (PoI r)) (hr_101 : ∀ (x1 x2 x3 x4 x5 x6 x8 : Int) (h : Hp), Lay h → rec 4 [x1, x2, x3, x4, x5, x6, x8] h = some r → X E mX12_votesFor (d + 5) (0, 0) (0, 0) 101 [some (xr 12 0), some (xi x1), some (xi x2), some (xi x3), some (xi x4), some (xi x5), some (xl x6), none, some (xi x8), none, none, none] [] h (PoI r)) (x1 x2 x3 x4 x5 x6 x8 y0 : Int) (h : Hp) (hL : Lay h) (hF : b_X12_votesFor_2 rec x1 x2 x3 x4 x5 x6 x8 y0 h = some r) : X E mX12_votesFor (d + 5) (0, 0) (0, 0) 74 [some (xr 12 0), some (xi x1), some (xi x2), some (xi x3), some (xi x4), some (xi x5), some (xl x6), none, some (xi x8), none, none, none] [xl y0] h (PoI r) := by
  unfold b_X12_votesFor_2 at hF
  refine x_lstore (i := 10) (b := 76) (ls2 := [some (xr 12 0), some (xi x1), some (xi x2), some (xi x3), some (xi x4), some (xi x5), some (xl x6), none, some (xi x8), none, some (xl y0), none]) dX12_votesFor_74 (Nat.le_of_ble_eq_true rfl) rfl rfl ?_
  refine x_iload (i := 5) (b := 78) dX12_votesFor_76 rfl rfl ?_
  refine x_iconst (n := (-1)) (b := 79) dX12_votesFor_78 (by decide) rfl ?_
  refine x_icmp_eq (tgt := 93) (b := 82) dX12_votesFor_79 (by decide) rfl (fun hc => ?_) (fun hc => ?_)
  · replace hF := br_T hc hF
    exact x_dp (ls2 := [some (xr 12 0), some (xi x1), some (xi x2), some (xi x3), some (xi x4), none, none, none, some (xi x8), none, some (xl y0), none]) ⟨rfl, rfl, rfl, rfl, rfl, rfl, rfl, trivial⟩ (hr_93 x1 x2 x3 x4 x8 y0 h hL hF)
  · replace hF := br_F hc hF
    refine x_lload (i := 10) (b := 84) dX12_votesFor_82 rfl rfl ?_
    refine x_lload (i := 6) (b := 86) dX12_votesFor_84 rfl rfl ?_
    refine x_lcmp (b := 87) dX12_votesFor_86 rfl ?_
    refine x_if_gt (tgt := 93) (b := 90) dX12_votesFor_87 (by decide) rfl (fun hc => ?_) (fun hc => ?_)
    · replace hF := br_T hc hF
      exact x_dp (ls2 := [some (xr 12 0), some (xi x1), some (xi x2), some (xi x3), some (xi x4), none, none, none, some (xi x8), none, some (xl y0), none]) ⟨rfl, rfl, rfl, rfl, rfl, rfl, rfl, trivial⟩ (hr_93 x1 x2 x3 x4 x8 y0 h hL hF)
    · replace hF := br_F hc hF
      refine x_goto (tgt := 101) dX12_votesFor_90 (by decide) ?_
      exact x_dp (ls2 := [some (xr 12 0), some (xi x1), some (xi x2), some (xi x3), some (xi x4), some (xi x5), some (xl x6), none, some (xi x8), none, none, none]) ⟨rfl, rfl, rfl, rfl, rfl, rfl, rfl, rfl, trivial⟩ (hr_101 x1 x2 x3 x4 x5 x6 x8 h hL hF)
set_option maxHeartbeats 4000000 in
set_option maxRecDepth 100000 in
theorem t_X12_votesFor_3 (E : xE) (d : Nat) (rec : Rk) (r : Int × Hp) (hr_101 : ∀ (x1 x2 x3 x4 x5 x6 x8 : Int) (h : Hp), Lay h → rec 4 [x1, x2, x3, x4, x5, x6, x8] h = some r → X E mX12_votesFor (d + 5) (0, 0) (0, 0) 101 [some (xr 12 0), some (xi x1), some (xi x2), some (xi x3), some (xi x4), some (xi x5), some (xl x6), none, some (xi x8), none, none, none] [] h (PoI r)) (x1 x2 x3 x4 x8 x10 : Int) (h : Hp) (hL : Lay h) (hF : b_X12_votesFor_3 rec x1 x2 x3 x4 x8 x10 h = some r) : X E mX12_votesFor (d + 5) (0, 0) (0, 0) 93 [some (xr 12 0), some (xi x1), some (xi x2), some (xi x3), some (xi x4), none, none, none, some (xi x8), none, some (xl x10), none] [] h (PoI r) := by
  unfold b_X12_votesFor_3 at hF
  refine x_iload (i := 8) (b := 95) dX12_votesFor_93 rfl rfl ?_
  refine x_istore (i := 5) (b := 97) (ls2 := [some (xr 12 0), some (xi x1), some (xi x2), some (xi x3), some (xi x4), some (xi x8), none, none, some (xi x8), none, some (xl x10), none]) dX12_votesFor_95 (Nat.le_of_ble_eq_true rfl) rfl rfl ?_
  refine x_lload (i := 10) (b := 99) dX12_votesFor_97 rfl rfl ?_
  refine x_lstore (i := 6) (b := 101) (ls2 := [some (xr 12 0), some (xi x1), some (xi x2), some (xi x3), some (xi x4), some (xi x8), some (xl x10), none, some (xi x8), none, some (xl x10), none]) dX12_votesFor_99 (Nat.le_of_ble_eq_true rfl) rfl rfl ?_
  exact x_dp (ls2 := [some (xr 12 0), some (xi x1), some (xi x2), some (xi x3), some (xi x4), some (xi x8), some (xl x10), none, some (xi x8), none, none, none]) ⟨rfl, rfl, rfl, rfl, rfl, rfl, rfl, rfl, trivial⟩ (hr_101 x1 x2 x3 x4 x8 x10 x8 h hL hF)
set_option maxHeartbeats 4000000 in
set_option maxRecDepth 100000 in
theorem t_X12_votesFor_4 (E : xE) (d : Nat) (rec : Rk) (r : Int × Hp) (hr_9 : ∀ (x1 x2 x3 x4 x5 x6 x8 : Int) (h : Hp), Lay h → rec 1 [x1, x2, x3, x4, x5, x6, x8] h = some r → X E mX12_votesFor (d + 5) (0, 0) (0, 0) 9 [some (xr 12 0), some (xi x1), some (xi x2), some (xi x3), some (xi x4), some (xi x5), some (xl x6), none, some (xi x8), none, none, none] [] h (PoI r)) (x1 x2 x3 x4 x5 x6 x8 : Int) (h : Hp) (hL : Lay h) (hF : b_X12_votesFor_4 rec x1 x2 x3 x4 x5 x6 x8 h = some r) : X E mX12_votesFor (d + 5) (0, 0) (0, 0) 101 [some (xr 12 0), some (xi x1), some (xi x2), some (xi x3), some (xi x4), some (xi x5), some (xl x6), none, some (xi x8), none, none, none] [] h (PoI r) := by
  unfold b_X12_votesFor_4 at hF
  obtain ⟨hs, hF⟩ := ck_e hF
  refine x_iinc (i := 8) (b := 104) (ls2 := [some (xr 12 0), some (xi x1), some (xi x2), some (xi x3), some (xi x4), some (xi x5), some (xl x6), none, some (xi (x8 + 1)), none, none, none]) dX12_votesFor_101 rfl (Nat.le_of_ble_eq_true rfl) hs rfl rfl ?_
  refine x_goto (tgt := 9) dX12_votesFor_104 (by decide) ?_
  exact x_dp (ls2 := [some (xr 12 0), some (xi x1), some (xi x2), some (xi x3), some (xi x4), some (xi x5), some (xl x6), none, some (xi (x8 + 1)), none, none, none]) ⟨rfl, rfl, rfl, rfl, rfl, rfl, rfl, rfl, trivial⟩ (hr_9 x1 x2 x3 x4 x5 x6 (x8 + 1) h hL hF)
set_option maxHeartbeats 4000000 in
set_option maxRecDepth 100000 in
theorem u_X12_votesFor (E : xE) (d : Nat) (r : Int × Hp) : ∀ n : Nat, (∀ (x1 x2 x3 x4 : Int) (h : Hp), Lay h → g_X12_votesFor n 0 [x1, x2, x3, x4] h = some r → X E mX12_votesFor (d + 5) (0, 0) (0, 0) 0 [some (xr 12 0), some (xi x1), some (xi x2), some (xi x3), some (xi x4), none, none, none, none, none, none, none] [] h (PoI r)) ∧ (∀ (x1 x2 x3 x4 x5 x6 x8 : Int) (h : Hp), Lay h → g_X12_votesFor n 1 [x1, x2, x3, x4, x5, x6, x8] h = some r → X E mX12_votesFor (d + 5) (0, 0) (0, 0) 9 [some (xr 12 0), some (xi x1), some (xi x2), some (xi x3), some (xi x4), some (xi x5), some (xl x6), none, some (xi x8), none, none, none] [] h (PoI r)) ∧ (∀ (x1 x2 x3 x4 x5 x6 x8 y0 : Int) (h : Hp), Lay h → g_X12_votesFor n 2 [x1, x2, x3, x4, x5, x6, x8, y0] h = some r → X E mX12_votesFor (d + 5) (0, 0) (0, 0) 74 [some (xr 12 0), some (xi x1), some (xi x2), some (xi x3), some (xi x4), some (xi x5), some (xl x6), none, some (xi x8), none, none, none] [xl y0] h (PoI r)) ∧ (∀ (x1 x2 x3 x4 x8 x10 : Int) (h : Hp), Lay h → g_X12_votesFor n 3 [x1, x2, x3, x4, x8, x10] h = some r → X E mX12_votesFor (d + 5) (0, 0) (0, 0) 93 [some (xr 12 0), some (xi x1), some (xi x2), some (xi x3), some (xi x4), none, none, none, some (xi x8), none, some (xl x10), none] [] h (PoI r)) ∧ (∀ (x1 x2 x3 x4 x5 x6 x8 : Int) (h : Hp), Lay h → g_X12_votesFor n 4 [x1, x2, x3, x4, x5, x6, x8] h = some r → X E mX12_votesFor (d + 5) (0, 0) (0, 0) 101 [some (xr 12 0), some (xi x1), some (xi x2), some (xi x3), some (xi x4), some (xi x5), some (xl x6), none, some (xi x8), none, none, none] [] h (PoI r)) := by
  intro n
  induction n with
  | zero => exact ⟨fun _ _ _ _ _ _ hF => no_e (r := r) hF, fun _ _ _ _ _ _ _ _ _ hF => no_e (r := r) hF, fun _ _ _ _ _ _ _ _ _ _ hF => no_e (r := r) hF, fun _ _ _ _ _ _ _ _ hF => no_e (r := r) hF, fun _ _ _ _ _ _ _ _ _ hF => no_e (r := r) hF⟩
  | succ n ih => exact ⟨fun x1 x2 x3 x4 h hL hF => t_X12_votesFor_0 E d (g_X12_votesFor n) r ih.2.1 x1 x2 x3 x4 h hL hF, fun x1 x2 x3 x4 x5 x6 x8 h hL hF => t_X12_votesFor_1 E d (g_X12_votesFor n) r ih.2.2.1 ih.2.2.2.2 x1 x2 x3 x4 x5 x6 x8 h hL hF, fun x1 x2 x3 x4 x5 x6 x8 y0 h hL hF => t_X12_votesFor_2 E d (g_X12_votesFor n) r ih.2.2.2.1 ih.2.2.2.2 x1 x2 x3 x4 x5 x6 x8 y0 h hL hF, fun x1 x2 x3 x4 x8 x10 h hL hF => t_X12_votesFor_3 E d (g_X12_votesFor n) r ih.2.2.2.2 x1 x2 x3 x4 x8 x10 h hL hF, fun x1 x2 x3 x4 x5 x6 x8 h hL hF => t_X12_votesFor_4 E d (g_X12_votesFor n) r ih.2.1 x1 x2 x3 x4 x5 x6 x8 h hL hF⟩
theorem c_X12_votesFor (d : Nat) (x1 x2 x3 x4 : Int) (h : Hp) (r : Int × Hp) (hL : Lay h) (hF : f_X12_votesFor x1 x2 x3 x4 h = some r) : Sp mX12_votesFor (d + 5) (0, 0) [xr 12 0, xi x1, xi x2, xi x3, xi x4] h (PoI r) :=
  sp_of (by decide) rfl (Nat.le_of_ble_eq_true rfl) (ls := [some (xr 12 0), some (xi x1), some (xi x2), some (xi x3), some (xi x4), none, none, none, none, none, none, none]) rfl (fun E _ => (u_X12_votesFor E d r FU).1 x1 x2 x3 x4 h hL hF)
theorem dX2_blow_0 : decode cX2_blow 0 = .ok (.aload_n 0, 1) := by decide +kernel
theorem dX2_blow_1 : decode cX2_blow 1 = .ok (.iconst (-1), 1) := by decide +kernel
theorem dX2_blow_2 : decode cX2_blow 2 = .ok (.putfield 34, 3) := by decide +kernel
theorem dX2_blow_5 : decode cX2_blow 5 = .ok (.aload_n 0, 1) := by decide +kernel
theorem dX2_blow_6 : decode cX2_blow 6 = .ok (.getfield 43, 3) := by decide +kernel
theorem dX2_blow_9 : decode cX2_blow 9 = .ok (.getfield 208, 3) := by decide +kernel
theorem dX2_blow_12 : decode cX2_blow 12 = .ok (.istore_n 2, 1) := by decide +kernel
theorem dX2_blow_13 : decode cX2_blow 13 = .ok (.iload_n 2, 1) := by decide +kernel
theorem dX2_blow_14 : decode cX2_blow 14 = .ok (.ifCond .le 47, 3) := by decide +kernel
theorem dX2_blow_17 : decode cX2_blow 17 = .ok (.aload_n 0, 1) := by decide +kernel
theorem dX2_blow_18 : decode cX2_blow 18 = .ok (.getfield 9, 3) := by decide +kernel
theorem dX2_blow_21 : decode cX2_blow 21 = .ok (.iconst 2, 1) := by decide +kernel
theorem dX2_blow_22 : decode cX2_blow 22 = .ok (.if_icmp .eq 39, 3) := by decide +kernel
theorem dX2_blow_25 : decode cX2_blow 25 = .ok (.aload_n 1, 1) := by decide +kernel
theorem dX2_blow_26 : decode cX2_blow 26 = .ok (.invokevirtual 211, 3) := by decide +kernel
theorem dX2_blow_29 : decode cX2_blow 29 = .ok (.bipush 100, 2) := by decide +kernel
theorem dX2_blow_31 : decode cX2_blow 31 = .ok (.irem, 1) := by decide +kernel
theorem dX2_blow_32 : decode cX2_blow 32 = .ok (.iload_n 2, 1) := by decide +kernel
theorem dX2_blow_33 : decode cX2_blow 33 = .ok (.if_icmp .ge 28, 3) := by decide +kernel
theorem dX2_blow_36 : decode cX2_blow 36 = .ok (.aload_n 0, 1) := by decide +kernel
theorem dX2_blow_37 : decode cX2_blow 37 = .ok (.aload_n 1, 1) := by decide +kernel
theorem dX2_blow_38 : decode cX2_blow 38 = .ok (.invokevirtual 211, 3) := by decide +kernel
theorem dX2_blow_41 : decode cX2_blow 41 = .ok (.iconst 4, 1) := by decide +kernel
theorem dX2_blow_42 : decode cX2_blow 42 = .ok (.irem, 1) := by decide +kernel
theorem dX2_blow_43 : decode cX2_blow 43 = .ok (.putfield 34, 3) := by decide +kernel
theorem dX2_blow_46 : decode cX2_blow 46 = .ok (.aload_n 0, 1) := by decide +kernel
theorem dX2_blow_47 : decode cX2_blow 47 = .ok (.aload_n 0, 1) := by decide +kernel
theorem dX2_blow_48 : decode cX2_blow 48 = .ok (.getfield 34, 3) := by decide +kernel
theorem dX2_blow_51 : decode cX2_blow 51 = .ok (.aload_n 0, 1) := by decide +kernel
theorem dX2_blow_52 : decode cX2_blow 52 = .ok (.getfield 43, 3) := by decide +kernel
theorem dX2_blow_55 : decode cX2_blow 55 = .ok (.getfield 214, 3) := by decide +kernel
theorem dX2_blow_58 : decode cX2_blow 58 = .ok (.invokevirtual 174, 3) := by decide +kernel
theorem dX2_blow_61 : decode cX2_blow 61 = .ok (.return_, 1) := by decide +kernel
noncomputable def b_X2_blow_0 (rec : Rk) (x1 : Int) (h : Hp) : Option (Int × Hp) :=
  lt (sI h 2 0 8 (-1)) fun h1 =>
  rf (gR h1 2 0 0) 0 fun j2 =>
  lt (gI h1 0 j2 11) fun z3 =>
  if z3 ≤ 0 then (
    some (0, h1)
  ) else (
    if (gI h1 2 0 1) = 2 then (
      some (0, h1)
    ) else (
      bd (f_X10_draw x1 h1) fun v4 h5 =>
      ck ((0 : Int) ≤ v4 ∧ (0 : Int) < 100) <|
      if z3 ≤ (v4 % 100) then (
        some (0, h5)
      ) else (
        bd (f_X10_draw x1 h5) fun v6 h7 =>
        ck ((0 : Int) ≤ v6 ∧ (0 : Int) < 4) <|
        lt (sI h7 2 0 8 (v6 % 4)) fun h8 =>
        rf (gR h8 2 0 0) 0 fun j9 =>
        bd (f_X2_give (gI h8 2 0 8) (gI h8 0 j9 12) h8) fun v10 h11 =>
        some (0, h11)
      )
    )
  )
noncomputable def g_X2_blow (n : Nat) : Rk := Nat.rec (motive := fun _ => Rk) (fun _ _ _ => none) (fun _ rec k l h => if k = 0 then b_X2_blow_0 rec (l.getD 0 0) h else none) n
noncomputable def f_X2_blow (x1 : Int) (h : Hp) : Option (Int × Hp) := g_X2_blow FU 0 [x1] h
set_option maxHeartbeats 4000000 in
set_option maxRecDepth 100000 in
theorem t_X2_blow_0 (E : xE) (d : Nat) (rec : Rk) (r : Int × Hp) (x1 : Int) (h : Hp) (hL : Lay h) (hF : b_X2_blow_0 rec x1 h = some r) : X E mX2_blow (d + 3) (0, 0) (0, 0) 0 [some (xr 2 0), some (xr 10 x1), none] [] h (PoV r) := by
  unfold b_X2_blow_0 at hF
  refine x_aload_n (i := 0) (b := 1) dX2_blow_0 rfl rfl rfl ?_
  refine x_iconst (n := (-1)) (b := 2) dX2_blow_1 (by decide) rfl ?_
  refine x_putI (b := 5) fk_X2_34 dX2_blow_2 rfl rfl 8 rfl ?_
  obtain ⟨h1, e_h1, hF⟩ := lt_e hF
  refine x_hp (h2 := h1) e_h1 ?_
  replace hL : Lay h1 := by rw [← e_h1]; exact hL
  refine x_aload_n (i := 0) (b := 6) dX2_blow_5 rfl rfl rfl ?_
  obtain ⟨j2, e_j2, hF⟩ := rf_e hF
  refine x_getR (v := some (0, j2)) (b := 9) fk_X2_43 dX2_blow_6 rfl e_j2 rfl ?_
  refine x_getI (v := gI h1 0 j2 11) (b := 12) fk_X2_208 dX2_blow_9 (by decide) rfl rfl ?_
  obtain ⟨z3, e_z3, hF⟩ := lt_e hF
  refine x_eq (y := z3) e_z3 ?_
  refine x_istore_n (i := 2) (b := 13) (ls2 := [some (xr 2 0), some (xr 10 x1), some (xi z3)]) dX2_blow_12 rfl (Nat.le_of_ble_eq_true rfl) rfl rfl ?_
  refine x_iload_n (i := 2) (b := 14) dX2_blow_13 rfl rfl rfl ?_
  refine x_if_le (tgt := 61) (b := 17) dX2_blow_14 (by decide) rfl (fun hc => ?_) (fun hc => ?_)
  · replace hF := br_T hc hF
    refine x_return dX2_blow_61 rfl ⟨Nat.le_refl _, Nat.le_refl _⟩ ?_
    cases hF
    exact ⟨rfl, rfl, hL⟩
  · replace hF := br_F hc hF
    refine x_aload_n (i := 0) (b := 18) dX2_blow_17 rfl rfl rfl ?_
    refine x_getI (v := gI h1 2 0 1) (b := 21) fk_X2_9 dX2_blow_18 (by decide) rfl rfl ?_
    refine x_iconst (n := 2) (b := 22) dX2_blow_21 (by decide) rfl ?_
    refine x_icmp_eq (tgt := 61) (b := 25) dX2_blow_22 (by decide) rfl (fun hc => ?_) (fun hc => ?_)
    · replace hF := br_T hc hF
      refine x_return dX2_blow_61 rfl ⟨Nat.le_refl _, Nat.le_refl _⟩ ?_
      cases hF
      exact ⟨rfl, rfl, hL⟩
    · replace hF := br_F hc hF
      refine x_aload_n (i := 1) (b := 26) dX2_blow_25 rfl rfl rfl ?_
      obtain ⟨v4, h5, hq, hF⟩ := bd_e hF
      refine x_callV (as := []) (rest := []) (b := 29) (c_X10_draw (d + 1) x1 h1 _ hL hq) dX2_blow_26 cw_X2_211 ⟨_, _, rfl, Nat.le_of_ble_eq_true rfl⟩ rfl rfl (Nat.le_of_ble_eq_true rfl) ⟨Nat.le_refl _, Nat.le_refl _⟩ rfl (fun rv hh hp _ => ?_)
      obtain ⟨rfl, rfl, hL⟩ := hp
      refine x_bipush (n := 100) (b := 31) dX2_blow_29 (by decide) rfl ?_
      obtain ⟨hs, hF⟩ := ck_e hF
      refine x_irem (b := 32) dX2_blow_31 hs.1 hs.2 rfl ?_
      refine x_iload_n (i := 2) (b := 33) dX2_blow_32 rfl rfl rfl ?_
      refine x_icmp_ge (tgt := 61) (b := 36) dX2_blow_33 (by decide) rfl (fun hc => ?_) (fun hc => ?_)
      · replace hF := br_T hc hF
        refine x_return dX2_blow_61 rfl ⟨Nat.le_refl _, Nat.le_refl _⟩ ?_
        cases hF
        exact ⟨rfl, rfl, hL⟩
      · replace hF := br_F hc hF
        refine x_aload_n (i := 0) (b := 37) dX2_blow_36 rfl rfl rfl ?_
        refine x_aload_n (i := 1) (b := 38) dX2_blow_37 rfl rfl rfl ?_
        obtain ⟨v6, h7, hq, hF⟩ := bd_e hF
        refine x_callV (as := []) (rest := [xr 2 0]) (b := 41) (c_X10_draw (d + 1) x1 h5 _ hL hq) dX2_blow_38 cw_X2_211 ⟨_, _, rfl, Nat.le_of_ble_eq_true rfl⟩ rfl rfl (Nat.le_of_ble_eq_true rfl) ⟨Nat.le_refl _, Nat.le_refl _⟩ rfl (fun rv hh hp _ => ?_)
        obtain ⟨rfl, rfl, hL⟩ := hp
        refine x_iconst (n := 4) (b := 42) dX2_blow_41 (by decide) rfl ?_
        obtain ⟨hs, hF⟩ := ck_e hF
        refine x_irem (b := 43) dX2_blow_42 hs.1 hs.2 rfl ?_
        refine x_putI (b := 46) fk_X2_34 dX2_blow_43 rfl rfl 8 rfl ?_
        obtain ⟨h8, e_h8, hF⟩ := lt_e hF
        refine x_hp (h2 := h8) e_h8 ?_
        replace hL : Lay h8 := by rw [← e_h8]; exact hL
        refine x_aload_n (i := 0) (b := 47) dX2_blow_46 rfl rfl rfl ?_
        refine x_aload_n (i := 0) (b := 48) dX2_blow_47 rfl rfl rfl ?_
        refine x_getI (v := gI h8 2 0 8) (b := 51) fk_X2_34 dX2_blow_48 (by decide) rfl rfl ?_
        refine x_aload_n (i := 0) (b := 52) dX2_blow_51 rfl rfl rfl ?_
        obtain ⟨j9, e_j9, hF⟩ := rf_e hF
        refine x_getR (v := some (0, j9)) (b := 55) fk_X2_43 dX2_blow_52 rfl e_j9 rfl ?_
        refine x_getI (v := gI h8 0 j9 12) (b := 58) fk_X2_214 dX2_blow_55 (by decide) rfl rfl ?_
        obtain ⟨v10, h11, hq, hF⟩ := bd_e hF
        refine x_callV (as := [xi (gI h8 2 0 8), xi (gI h8 0 j9 12)]) (rest := []) (b := 61) (c_X2_give d (gI h8 2 0 8) (gI h8 0 j9 12) h8 _ hL hq) dX2_blow_58 cw_X2_174 ⟨_, _, rfl, Nat.le_of_ble_eq_true rfl⟩ rfl rfl (Nat.le_of_ble_eq_true rfl) ⟨Nat.le_refl _, Nat.le_refl _⟩ rfl (fun rv hh hp _ => ?_)
        obtain ⟨rfl, rfl, hL⟩ := hp
        refine x_return dX2_blow_61 rfl ⟨Nat.le_refl _, Nat.le_refl _⟩ ?_
        cases hF
        exact ⟨rfl, rfl, hL⟩
set_option maxHeartbeats 4000000 in
set_option maxRecDepth 100000 in
theorem u_X2_blow (E : xE) (d : Nat) (r : Int × Hp) : ∀ n : Nat, (∀ (x1 : Int) (h : Hp), Lay h → g_X2_blow n 0 [x1] h = some r → X E mX2_blow (d + 3) (0, 0) (0, 0) 0 [some (xr 2 0), some (xr 10 x1), none] [] h (PoV r)) := by
  intro n
  induction n with
  | zero => exact fun _ _ _ hF => no_e (r := r) hF
  | succ n ih => exact fun x1 h hL hF => t_X2_blow_0 E d (g_X2_blow n) r  x1 h hL hF
theorem c_X2_blow (d : Nat) (x1 : Int) (h : Hp) (r : Int × Hp) (hL : Lay h) (hF : f_X2_blow x1 h = some r) : Sp mX2_blow (d + 3) (0, 0) [xr 2 0, xr 10 x1] h (PoV r) :=
  sp_of (by decide) rfl (Nat.le_of_ble_eq_true rfl) (ls := [some (xr 2 0), some (xr 10 x1), none]) rfl (fun E _ => (u_X2_blow E d r FU) x1 h hL hF)
theorem dX2_bribe_0 : decode cX2_bribe 0 = .ok (.iconst (-1), 1) := by decide +kernel
theorem dX2_bribe_1 : decode cX2_bribe 1 = .ok (.istore_n 3, 1) := by decide +kernel
theorem dX2_bribe_2 : decode cX2_bribe 2 = .ok (.bipush 99, 2) := by decide +kernel
theorem dX2_bribe_4 : decode cX2_bribe 4 = .ok (.istore 4, 2) := by decide +kernel
theorem dX2_bribe_6 : decode cX2_bribe 6 = .ok (.iconst 0, 1) := by decide +kernel
theorem dX2_bribe_7 : decode cX2_bribe 7 = .ok (.istore 5, 2) := by decide +kernel
theorem dX2_bribe_9 : decode cX2_bribe 9 = .ok (.iload 5, 2) := by decide +kernel
theorem dX2_bribe_11 : decode cX2_bribe 11 = .ok (.iconst 4, 1) := by decide +kernel
theorem dX2_bribe_12 : decode cX2_bribe 12 = .ok (.if_icmp .ge 52, 3) := by decide +kernel
theorem dX2_bribe_15 : decode cX2_bribe 15 = .ok (.aload_n 0, 1) := by decide +kernel
theorem dX2_bribe_16 : decode cX2_bribe 16 = .ok (.getfield 43, 3) := by decide +kernel
theorem dX2_bribe_19 : decode cX2_bribe 19 = .ok (.getfield 124, 3) := by decide +kernel
theorem dX2_bribe_22 : decode cX2_bribe 22 = .ok (.iload_n 2, 1) := by decide +kernel
theorem dX2_bribe_23 : decode cX2_bribe 23 = .ok (.aload_n 0, 1) := by decide +kernel
theorem dX2_bribe_24 : decode cX2_bribe 24 = .ok (.getfield 43, 3) := by decide +kernel
theorem dX2_bribe_27 : decode cX2_bribe 27 = .ok (.getfield 124, 3) := by decide +kernel
theorem dX2_bribe_30 : decode cX2_bribe 30 = .ok (.aload_n 1, 1) := by decide +kernel
theorem dX2_bribe_31 : decode cX2_bribe 31 = .ok (.getfield 157, 3) := by decide +kernel
theorem dX2_bribe_34 : decode cX2_bribe 34 = .ok (.iload 5, 2) := by decide +kernel
theorem dX2_bribe_36 : decode cX2_bribe 36 = .ok (.invokevirtual 160, 3) := by decide +kernel
theorem dX2_bribe_39 : decode cX2_bribe 39 = .ok (.invokevirtual 181, 3) := by decide +kernel
theorem dX2_bribe_42 : decode cX2_bribe 42 = .ok (.istore 6, 2) := by decide +kernel
theorem dX2_bribe_44 : decode cX2_bribe 44 = .ok (.iload 6, 2) := by decide +kernel
theorem dX2_bribe_46 : decode cX2_bribe 46 = .ok (.iload 4, 2) := by decide +kernel
theorem dX2_bribe_48 : decode cX2_bribe 48 = .ok (.if_icmp .ge 10, 3) := by decide +kernel
theorem dX2_bribe_51 : decode cX2_bribe 51 = .ok (.iload 5, 2) := by decide +kernel
theorem dX2_bribe_53 : decode cX2_bribe 53 = .ok (.istore_n 3, 1) := by decide +kernel
theorem dX2_bribe_54 : decode cX2_bribe 54 = .ok (.iload 6, 2) := by decide +kernel
theorem dX2_bribe_56 : decode cX2_bribe 56 = .ok (.istore 4, 2) := by decide +kernel
theorem dX2_bribe_58 : decode cX2_bribe 58 = .ok (.iinc 5 1, 3) := by decide +kernel
theorem dX2_bribe_61 : decode cX2_bribe 61 = .ok (.goto (-52), 3) := by decide +kernel
theorem dX2_bribe_64 : decode cX2_bribe 64 = .ok (.iload_n 3, 1) := by decide +kernel
theorem dX2_bribe_65 : decode cX2_bribe 65 = .ok (.ireturn, 1) := by decide +kernel
noncomputable def b_X2_bribe_0 (rec : Rk) (x1 x2 : Int) (h : Hp) : Option (Int × Hp) :=
  rec 1 [x1, x2, (-1), 99, 0] h
noncomputable def b_X2_bribe_1 (rec : Rk) (x1 x2 x3 x4 x5 : Int) (h : Hp) : Option (Int × Hp) :=
  if 4 ≤ x5 then (
    some (x3, h)
  ) else (
    rf (gR h 2 0 0) 0 fun j1 =>
    rf (gR h 2 0 0) 0 fun j2 =>
    bd (f_X9_step j2 (gI h 10 x1 1) x5 h) fun v3 h4 =>
    bd (f_X9_fromIsle j1 x2 v3 h4) fun v5 h6 =>
    if x4 ≤ v5 then (
      rec 2 [x1, x2, x3, x4, x5] h6
    ) else (
      rec 2 [x1, x2, x5, v5, x5] h6
    )
  )
noncomputable def b_X2_bribe_2 (rec : Rk) (x1 x2 x3 x4 x5 : Int) (h : Hp) : Option (Int × Hp) :=
  ck (-2147483648 ≤ x5 + 1 ∧ x5 + 1 < 2147483648) <|
  rec 1 [x1, x2, x3, x4, x5 + 1] h
noncomputable def g_X2_bribe (n : Nat) : Rk := Nat.rec (motive := fun _ => Rk) (fun _ _ _ => none) (fun _ rec k l h => if k = 0 then b_X2_bribe_0 rec (l.getD 0 0) (l.getD 1 0) h else if k = 1 then b_X2_bribe_1 rec (l.getD 0 0) (l.getD 1 0) (l.getD 2 0) (l.getD 3 0) (l.getD 4 0) h else if k = 2 then b_X2_bribe_2 rec (l.getD 0 0) (l.getD 1 0) (l.getD 2 0) (l.getD 3 0) (l.getD 4 0) h else none) n
noncomputable def f_X2_bribe (x1 x2 : Int) (h : Hp) : Option (Int × Hp) := g_X2_bribe FU 0 [x1, x2] h
set_option maxHeartbeats 4000000 in
set_option maxRecDepth 100000 in
theorem t_X2_bribe_0 (E : xE) (d : Nat) (rec : Rk) (r : Int × Hp) (hr_9 : ∀ (x1 x2 x3 x4 x5 : Int) (h : Hp), Lay h → rec 1 [x1, x2, x3, x4, x5] h = some r → X E mX2_bribe (d + 3) (0, 0) (0, 0) 9 [some (xr 2 0), some (xr 10 x1), some (xi x2), some (xi x3), some (xi x4), some (xi x5), none] [] h (PoI r)) (x1 x2 : Int) (h : Hp) (hL : Lay h) (hF : b_X2_bribe_0 rec x1 x2 h = some r) : X E mX2_bribe (d + 3) (0, 0) (0, 0) 0 [some (xr 2 0), some (xr 10 x1), some (xi x2), none, none, none, none] [] h (PoI r) := by
  unfold b_X2_bribe_0 at hF
  refine x_iconst (n := (-1)) (b := 1) dX2_bribe_0 (by decide) rfl ?_
  refine x_istore_n (i := 3) (b := 2) (ls2 := [some (xr 2 0), some (xr 10 x1), some (xi x2), some (xi (-1)), none, none, none]) dX2_bribe_1 rfl (Nat.le_of_ble_eq_true rfl) rfl rfl ?_
  refine x_bipush (n := 99) (b := 4) dX2_bribe_2 (by decide) rfl ?_
  refine x_istore (i := 4) (b := 6) (ls2 := [some (xr 2 0), some (xr 10 x1), some (xi x2), some (xi (-1)), some (xi 99), none, none]) dX2_bribe_4 (Nat.le_of_ble_eq_true rfl) rfl rfl ?_
  refine x_iconst (n := 0) (b := 7) dX2_bribe_6 (by decide) rfl ?_
  refine x_istore (i := 5) (b := 9) (ls2 := [some (xr 2 0), some (xr 10 x1), some (xi x2), some (xi (-1)), some (xi 99), some (xi 0), none]) dX2_bribe_7 (Nat.le_of_ble_eq_true rfl) rfl rfl ?_
  exact x_dp (ls2 := [some (xr 2 0), some (xr 10 x1), some (xi x2), some (xi (-1)), some (xi 99), some (xi 0), none]) ⟨rfl, rfl, rfl, rfl, rfl, rfl, trivial⟩ (hr_9 x1 x2 (-1) 99 0 h hL hF)
set_option maxHeartbeats 4000000 in
set_option maxRecDepth 100000 in
theorem t_X2_bribe_1 (E : xE) (d : Nat) (rec : Rk) (r : Int × Hp) (hr_58 : ∀ (x1 x2 x3 x4 x5 : Int) (h : Hp), Lay h → rec 2 [x1, x2, x3, x4, x5] h = some r → X E mX2_bribe (d + 3) (0, 0) (0, 0) 58 [some (xr 2 0), some (xr 10 x1), some (xi x2), some (xi x3), some (xi x4), some (xi x5), none] [] h (PoI r)) (x1 x2 x3 x4 x5 : Int) (h : Hp) (hL : Lay h) (hF : b_X2_bribe_1 rec x1 x2 x3 x4 x5 h = some r) : X E mX2_bribe (d + 3) (0, 0) (0, 0) 9 [some (xr 2 0), some (xr 10 x1), some (xi x2), some (xi x3), some (xi x4), some (xi x5), none] [] h (PoI r) := by
  unfold b_X2_bribe_1 at hF
  refine x_iload (i := 5) (b := 11) dX2_bribe_9 rfl rfl ?_
  refine x_iconst (n := 4) (b := 12) dX2_bribe_11 (by decide) rfl ?_
  refine x_icmp_ge (tgt := 64) (b := 15) dX2_bribe_12 (by decide) rfl (fun hc => ?_) (fun hc => ?_)
  · replace hF := br_T hc hF
    refine x_iload_n (i := 3) (b := 65) dX2_bribe_64 rfl rfl rfl ?_
    refine x_ireturn dX2_bribe_65 rfl ⟨Nat.le_refl _, Nat.le_refl _⟩ ?_
    cases hF
    exact ⟨rfl, rfl, hL⟩
  · replace hF := br_F hc hF
    refine x_aload_n (i := 0) (b := 16) dX2_bribe_15 rfl rfl rfl ?_
    obtain ⟨j1, e_j1, hF⟩ := rf_e hF
    refine x_getR (v := some (0, j1)) (b := 19) fk_X2_43 dX2_bribe_16 rfl e_j1 rfl ?_
    refine x_getL (j := j1) (t := (9, 0, true)) (b := 22) fk_X2_124 dX2_bribe_19 rfl hL rfl rfl rfl ?_
    refine x_iload_n (i := 2) (b := 23) dX2_bribe_22 rfl rfl rfl ?_
    refine x_aload_n (i := 0) (b := 24) dX2_bribe_23 rfl rfl rfl ?_
    obtain ⟨j2, e_j2, hF⟩ := rf_e hF
    refine x_getR (v := some (0, j2)) (b := 27) fk_X2_43 dX2_bribe_24 rfl e_j2 rfl ?_
    refine x_getL (j := j2) (t := (9, 0, true)) (b := 30) fk_X2_124 dX2_bribe_27 rfl hL rfl rfl rfl ?_
    refine x_aload_n (i := 1) (b := 31) dX2_bribe_30 rfl rfl rfl ?_
    refine x_getI (v := gI h 10 x1 1) (b := 34) fk_X2_157 dX2_bribe_31 (by decide) rfl rfl ?_
    refine x_iload (i := 5) (b := 36) dX2_bribe_34 rfl rfl ?_
    obtain ⟨v3, h4, hq, hF⟩ := bd_e hF
    refine x_callV (as := [xi (gI h 10 x1 1), xi x5]) (rest := [xi x2, xr 9 j1]) (b := 39) (c_X9_step d j2 (gI h 10 x1 1) x5 h _ hL hq) dX2_bribe_36 cw_X2_160 ⟨_, _, rfl, Nat.le_of_ble_eq_true rfl⟩ rfl rfl (Nat.le_of_ble_eq_true rfl) ⟨Nat.le_refl _, Nat.le_refl _⟩ rfl (fun rv hh hp _ => ?_)
    obtain ⟨rfl, rfl, hL⟩ := hp
    obtain ⟨v5, h6, hq, hF⟩ := bd_e hF
    refine x_callV (as := [xi x2, xi v3]) (rest := []) (b := 42) (c_X9_fromIsle (d + 1) j1 x2 v3 h4 _ hL hq) dX2_bribe_39 cw_X2_181 ⟨_, _, rfl, Nat.le_of_ble_eq_true rfl⟩ rfl rfl (Nat.le_of_ble_eq_true rfl) ⟨Nat.le_refl _, Nat.le_refl _⟩ rfl (fun rv hh hp _ => ?_)
    obtain ⟨rfl, rfl, hL⟩ := hp
    refine x_istore (i := 6) (b := 44) (ls2 := [some (xr 2 0), some (xr 10 x1), some (xi x2), some (xi x3), some (xi x4), some (xi x5), some (xi v5)]) dX2_bribe_42 (Nat.le_of_ble_eq_true rfl) rfl rfl ?_
    refine x_iload (i := 6) (b := 46) dX2_bribe_44 rfl rfl ?_
    refine x_iload (i := 4) (b := 48) dX2_bribe_46 rfl rfl ?_
    refine x_icmp_ge (tgt := 58) (b := 51) dX2_bribe_48 (by decide) rfl (fun hc => ?_) (fun hc => ?_)
    · replace hF := br_T hc hF
      exact x_dp (ls2 := [some (xr 2 0), some (xr 10 x1), some (xi x2), some (xi x3), some (xi x4), some (xi x5), none]) ⟨rfl, rfl, rfl, rfl, rfl, rfl, trivial⟩ (hr_58 x1 x2 x3 x4 x5 h6 hL hF)
    · replace hF := br_F hc hF
      refine x_iload (i := 5) (b := 53) dX2_bribe_51 rfl rfl ?_
      refine x_istore_n (i := 3) (b := 54) (ls2 := [some (xr 2 0), some (xr 10 x1), some (xi x2), some (xi x5), some (xi x4), some (xi x5), some (xi v5)]) dX2_bribe_53 rfl (Nat.le_of_ble_eq_true rfl) rfl rfl ?_
      refine x_iload (i := 6) (b := 56) dX2_bribe_54 rfl rfl ?_
      refine x_istore (i := 4) (b := 58) (ls2 := [some (xr 2 0), some (xr 10 x1), some (xi x2), some (xi x5), some (xi v5), some (xi x5), some (xi v5)]) dX2_bribe_56 (Nat.le_of_ble_eq_true rfl) rfl rfl ?_
      exact x_dp (ls2 := [some (xr 2 0), some (xr 10 x1), some (xi x2), some (xi x5), some (xi v5), some (xi x5), none]) ⟨rfl, rfl, rfl, rfl, rfl, rfl, trivial⟩ (hr_58 x1 x2 x5 v5 x5 h6 hL hF)
set_option maxHeartbeats 4000000 in
set_option maxRecDepth 100000 in
theorem t_X2_bribe_2 (E : xE) (d : Nat) (rec : Rk) (r : Int × Hp) (hr_9 : ∀ (x1 x2 x3 x4 x5 : Int) (h : Hp), Lay h → rec 1 [x1, x2, x3, x4, x5] h = some r → X E mX2_bribe (d + 3) (0, 0) (0, 0) 9 [some (xr 2 0), some (xr 10 x1), some (xi x2), some (xi x3), some (xi x4), some (xi x5), none] [] h (PoI r)) (x1 x2 x3 x4 x5 : Int) (h : Hp) (hL : Lay h) (hF : b_X2_bribe_2 rec x1 x2 x3 x4 x5 h = some r) : X E mX2_bribe (d + 3) (0, 0) (0, 0) 58 [some (xr 2 0), some (xr 10 x1), some (xi x2), some (xi x3), some (xi x4), some (xi x5), none] [] h (PoI r) := by
  unfold b_X2_bribe_2 at hF
  obtain ⟨hs, hF⟩ := ck_e hF
  refine x_iinc (i := 5) (b := 61) (ls2 := [some (xr 2 0), some (xr 10 x1), some (xi x2), some (xi x3), some (xi x4), some (xi (x5 + 1)), none]) dX2_bribe_58 rfl (Nat.le_of_ble_eq_true rfl) hs rfl rfl ?_
  refine x_goto (tgt := 9) dX2_bribe_61 (by decide) ?_
  exact x_dp (ls2 := [some (xr 2 0), some (xr 10 x1), some (xi x2), some (xi x3), some (xi x4), some (xi (x5 + 1)), none]) ⟨rfl, rfl, rfl, rfl, rfl, rfl, trivial⟩ (hr_9 x1 x2 x3 x4 (x5 + 1) h hL hF)
set_option maxHeartbeats 4000000 in
set_option maxRecDepth 100000 in
theorem u_X2_bribe (E : xE) (d : Nat) (r : Int × Hp) : ∀ n : Nat, (∀ (x1 x2 : Int) (h : Hp), Lay h → g_X2_bribe n 0 [x1, x2] h = some r → X E mX2_bribe (d + 3) (0, 0) (0, 0) 0 [some (xr 2 0), some (xr 10 x1), some (xi x2), none, none, none, none] [] h (PoI r)) ∧ (∀ (x1 x2 x3 x4 x5 : Int) (h : Hp), Lay h → g_X2_bribe n 1 [x1, x2, x3, x4, x5] h = some r → X E mX2_bribe (d + 3) (0, 0) (0, 0) 9 [some (xr 2 0), some (xr 10 x1), some (xi x2), some (xi x3), some (xi x4), some (xi x5), none] [] h (PoI r)) ∧ (∀ (x1 x2 x3 x4 x5 : Int) (h : Hp), Lay h → g_X2_bribe n 2 [x1, x2, x3, x4, x5] h = some r → X E mX2_bribe (d + 3) (0, 0) (0, 0) 58 [some (xr 2 0), some (xr 10 x1), some (xi x2), some (xi x3), some (xi x4), some (xi x5), none] [] h (PoI r)) := by
  intro n
  induction n with
  | zero => exact ⟨fun _ _ _ _ hF => no_e (r := r) hF, fun _ _ _ _ _ _ _ hF => no_e (r := r) hF, fun _ _ _ _ _ _ _ hF => no_e (r := r) hF⟩
  | succ n ih => exact ⟨fun x1 x2 h hL hF => t_X2_bribe_0 E d (g_X2_bribe n) r ih.2.1 x1 x2 h hL hF, fun x1 x2 x3 x4 x5 h hL hF => t_X2_bribe_1 E d (g_X2_bribe n) r ih.2.2 x1 x2 x3 x4 x5 h hL hF, fun x1 x2 x3 x4 x5 h hL hF => t_X2_bribe_2 E d (g_X2_bribe n) r ih.2.1 x1 x2 x3 x4 x5 h hL hF⟩
theorem c_X2_bribe (d : Nat) (x1 x2 : Int) (h : Hp) (r : Int × Hp) (hL : Lay h) (hF : f_X2_bribe x1 x2 h = some r) : Sp mX2_bribe (d + 3) (0, 0) [xr 2 0, xr 10 x1, xi x2] h (PoI r) :=
  sp_of (by decide) rfl (Nat.le_of_ble_eq_true rfl) (ls := [some (xr 2 0), some (xr 10 x1), some (xi x2), none, none, none, none]) rfl (fun E _ => (u_X2_bribe E d r FU).1 x1 x2 h hL hF)
theorem dX2_comesTo_0 : decode cX2_comesTo 0 = .ok (.aload_n 0, 1) := by decide +kernel
theorem dX2_comesTo_1 : decode cX2_comesTo 1 = .ok (.getfield 43, 3) := by decide +kernel
theorem dX2_comesTo_4 : decode cX2_comesTo 4 = .ok (.getfield 124, 3) := by decide +kernel
theorem dX2_comesTo_7 : decode cX2_comesTo 7 = .ok (.aload_n 1, 1) := by decide +kernel
theorem dX2_comesTo_8 : decode cX2_comesTo 8 = .ok (.getfield 157, 3) := by decide +kernel
theorem dX2_comesTo_11 : decode cX2_comesTo 11 = .ok (.iload_n 2, 1) := by decide +kernel
theorem dX2_comesTo_12 : decode cX2_comesTo 12 = .ok (.invokevirtual 160, 3) := by decide +kernel
theorem dX2_comesTo_15 : decode cX2_comesTo 15 = .ok (.istore_n 3, 1) := by decide +kernel
theorem dX2_comesTo_16 : decode cX2_comesTo 16 = .ok (.aload_n 0, 1) := by decide +kernel
theorem dX2_comesTo_17 : decode cX2_comesTo 17 = .ok (.getfield 43, 3) := by decide +kernel
theorem dX2_comesTo_20 : decode cX2_comesTo 20 = .ok (.getfield 124, 3) := by decide +kernel
theorem dX2_comesTo_23 : decode cX2_comesTo 23 = .ok (.iload_n 3, 1) := by decide +kernel
theorem dX2_comesTo_24 : decode cX2_comesTo 24 = .ok (.invokevirtual 163, 3) := by decide +kernel
theorem dX2_comesTo_27 : decode cX2_comesTo 27 = .ok (.ifCond .eq 7, 3) := by decide +kernel
theorem dX2_comesTo_30 : decode cX2_comesTo 30 = .ok (.iload_n 3, 1) := by decide +kernel
theorem dX2_comesTo_31 : decode cX2_comesTo 31 = .ok (.goto 7, 3) := by decide +kernel
theorem dX2_comesTo_34 : decode cX2_comesTo 34 = .ok (.aload_n 1, 1) := by decide +kernel
theorem dX2_comesTo_35 : decode cX2_comesTo 35 = .ok (.getfield 157, 3) := by decide +kernel
theorem dX2_comesTo_38 : decode cX2_comesTo 38 = .ok (.ireturn, 1) := by decide +kernel
noncomputable def b_X2_comesTo_0 (rec : Rk) (x1 x2 : Int) (h : Hp) : Option (Int × Hp) :=
  rf (gR h 2 0 0) 0 fun j1 =>
  bd (f_X9_step j1 (gI h 10 x1 1) x2 h) fun v2 h3 =>
  rf (gR h3 2 0 0) 0 fun j4 =>
  bd (f_X9_isWater j4 v2 h3) fun v5 h6 =>
  if v5 = 0 then (
    some (gI h6 10 x1 1, h6)
  ) else (
    some (v2, h6)
  )
noncomputable def g_X2_comesTo (n : Nat) : Rk := Nat.rec (motive := fun _ => Rk) (fun _ _ _ => none) (fun _ rec k l h => if k = 0 then b_X2_comesTo_0 rec (l.getD 0 0) (l.getD 1 0) h else none) n
noncomputable def f_X2_comesTo (x1 x2 : Int) (h : Hp) : Option (Int × Hp) := g_X2_comesTo FU 0 [x1, x2] h
set_option maxHeartbeats 4000000 in
set_option maxRecDepth 100000 in
theorem t_X2_comesTo_0 (E : xE) (d : Nat) (rec : Rk) (r : Int × Hp) (x1 x2 : Int) (h : Hp) (hL : Lay h) (hF : b_X2_comesTo_0 rec x1 x2 h = some r) : X E mX2_comesTo (d + 3) (0, 0) (0, 0) 0 [some (xr 2 0), some (xr 10 x1), some (xi x2), none] [] h (PoI r) := by
  unfold b_X2_comesTo_0 at hF
  refine x_aload_n (i := 0) (b := 1) dX2_comesTo_0 rfl rfl rfl ?_
  obtain ⟨j1, e_j1, hF⟩ := rf_e hF
  refine x_getR (v := some (0, j1)) (b := 4) fk_X2_43 dX2_comesTo_1 rfl e_j1 rfl ?_
  refine x_getL (j := j1) (t := (9, 0, true)) (b := 7) fk_X2_124 dX2_comesTo_4 rfl hL rfl rfl rfl ?_
  refine x_aload_n (i := 1) (b := 8) dX2_comesTo_7 rfl rfl rfl ?_
  refine x_getI (v := gI h 10 x1 1) (b := 11) fk_X2_157 dX2_comesTo_8 (by decide) rfl rfl ?_
  refine x_iload_n (i := 2) (b := 12) dX2_comesTo_11 rfl rfl rfl ?_
  obtain ⟨v2, h3, hq, hF⟩ := bd_e hF
  refine x_callV (as := [xi (gI h 10 x1 1), xi x2]) (rest := []) (b := 15) (c_X9_step d j1 (gI h 10 x1 1) x2 h _ hL hq) dX2_comesTo_12 cw_X2_160 ⟨_, _, rfl, Nat.le_of_ble_eq_true rfl⟩ rfl rfl (Nat.le_of_ble_eq_true rfl) ⟨Nat.le_refl _, Nat.le_refl _⟩ rfl (fun rv hh hp _ => ?_)
  obtain ⟨rfl, rfl, hL⟩ := hp
  refine x_istore_n (i := 3) (b := 16) (ls2 := [some (xr 2 0), some (xr 10 x1), some (xi x2), some (xi v2)]) dX2_comesTo_15 rfl (Nat.le_of_ble_eq_true rfl) rfl rfl ?_
  refine x_aload_n (i := 0) (b := 17) dX2_comesTo_16 rfl rfl rfl ?_
  obtain ⟨j4, e_j4, hF⟩ := rf_e hF
  refine x_getR (v := some (0, j4)) (b := 20) fk_X2_43 dX2_comesTo_17 rfl e_j4 rfl ?_
  refine x_getL (j := j4) (t := (9, 0, true)) (b := 23) fk_X2_124 dX2_comesTo_20 rfl hL rfl rfl rfl ?_
  refine x_iload_n (i := 3) (b := 24) dX2_comesTo_23 rfl rfl rfl ?_
  obtain ⟨v5, h6, hq, hF⟩ := bd_e hF
  refine x_callV (as := [xi v2]) (rest := []) (b := 27) (c_X9_isWater d j4 v2 h3 _ hL hq) dX2_comesTo_24 cw_X2_163 ⟨_, _, rfl, Nat.le_of_ble_eq_true rfl⟩ rfl rfl (Nat.le_of_ble_eq_true rfl) ⟨Nat.le_refl _, Nat.le_refl _⟩ rfl (fun rv hh hp _ => ?_)
  obtain ⟨rfl, rfl, hL⟩ := hp
  refine x_if_eq (tgt := 34) (b := 30) dX2_comesTo_27 (by decide) rfl (fun hc => ?_) (fun hc => ?_)
  · replace hF := br_T hc hF
    refine x_aload_n (i := 1) (b := 35) dX2_comesTo_34 rfl rfl rfl ?_
    refine x_getI (v := gI h6 10 x1 1) (b := 38) fk_X2_157 dX2_comesTo_35 (by decide) rfl rfl ?_
    refine x_ireturn dX2_comesTo_38 rfl ⟨Nat.le_refl _, Nat.le_refl _⟩ ?_
    cases hF
    exact ⟨rfl, rfl, hL⟩
  · replace hF := br_F hc hF
    refine x_iload_n (i := 3) (b := 31) dX2_comesTo_30 rfl rfl rfl ?_
    refine x_goto (tgt := 38) dX2_comesTo_31 (by decide) ?_
    refine x_ireturn dX2_comesTo_38 rfl ⟨Nat.le_refl _, Nat.le_refl _⟩ ?_
    cases hF
    exact ⟨rfl, rfl, hL⟩
set_option maxHeartbeats 4000000 in
set_option maxRecDepth 100000 in
theorem u_X2_comesTo (E : xE) (d : Nat) (r : Int × Hp) : ∀ n : Nat, (∀ (x1 x2 : Int) (h : Hp), Lay h → g_X2_comesTo n 0 [x1, x2] h = some r → X E mX2_comesTo (d + 3) (0, 0) (0, 0) 0 [some (xr 2 0), some (xr 10 x1), some (xi x2), none] [] h (PoI r)) := by
  intro n
  induction n with
  | zero => exact fun _ _ _ _ hF => no_e (r := r) hF
  | succ n ih => exact fun x1 x2 h hL hF => t_X2_comesTo_0 E d (g_X2_comesTo n) r  x1 x2 h hL hF
theorem c_X2_comesTo (d : Nat) (x1 x2 : Int) (h : Hp) (r : Int × Hp) (hL : Lay h) (hF : f_X2_comesTo x1 x2 h = some r) : Sp mX2_comesTo (d + 3) (0, 0) [xr 2 0, xr 10 x1, xi x2] h (PoI r) :=
  sp_of (by decide) rfl (Nat.le_of_ble_eq_true rfl) (ls := [some (xr 2 0), some (xr 10 x1), some (xi x2), none]) rfl (fun E _ => (u_X2_comesTo E d r FU) x1 x2 h hL hF)
theorem dX2_isAboard_0 : decode cX2_isAboard 0 = .ok (.aload_n 0, 1) := by decide +kernel
theorem dX2_isAboard_1 : decode cX2_isAboard 1 = .ok (.getfield 43, 3) := by decide +kernel
theorem dX2_isAboard_4 : decode cX2_isAboard 4 = .ok (.iload_n 2, 1) := by decide +kernel
theorem dX2_isAboard_5 : decode cX2_isAboard 5 = .ok (.invokevirtual 47, 3) := by decide +kernel
theorem dX2_isAboard_8 : decode cX2_isAboard 8 = .ok (.ifCond .eq 15, 3) := by decide +kernel
theorem dX2_isAboard_11 : decode cX2_isAboard 11 = .ok (.aload_n 1, 1) := by decide +kernel
theorem dX2_isAboard_12 : decode cX2_isAboard 12 = .ok (.getfield 53, 3) := by decide +kernel
theorem dX2_isAboard_15 : decode cX2_isAboard 15 = .ok (.iload_n 2, 1) := by decide +kernel
theorem dX2_isAboard_16 : decode cX2_isAboard 16 = .ok (.ishr, 1) := by decide +kernel
theorem dX2_isAboard_17 : decode cX2_isAboard 17 = .ok (.iconst 1, 1) := by decide +kernel
theorem dX2_isAboard_18 : decode cX2_isAboard 18 = .ok (.iand, 1) := by decide +kernel
theorem dX2_isAboard_19 : decode cX2_isAboard 19 = .ok (.iconst 1, 1) := by decide +kernel
theorem dX2_isAboard_20 : decode cX2_isAboard 20 = .ok (.if_icmp .ne 5, 3) := by decide +kernel
theorem dX2_isAboard_23 : decode cX2_isAboard 23 = .ok (.iconst 0, 1) := by decide +kernel
theorem dX2_isAboard_24 : decode cX2_isAboard 24 = .ok (.ireturn, 1) := by decide +kernel
theorem dX2_isAboard_25 : decode cX2_isAboard 25 = .ok (.aload_n 0, 1) := by decide +kernel
theorem dX2_isAboard_26 : decode cX2_isAboard 26 = .ok (.getfield 9, 3) := by decide +kernel
theorem dX2_isAboard_29 : decode cX2_isAboard 29 = .ok (.iconst 3, 1) := by decide +kernel
theorem dX2_isAboard_30 : decode cX2_isAboard 30 = .ok (.if_icmp .ne 13, 3) := by decide +kernel
theorem dX2_isAboard_33 : decode cX2_isAboard 33 = .ok (.aload_n 0, 1) := by decide +kernel
theorem dX2_isAboard_34 : decode cX2_isAboard 34 = .ok (.getfield 15, 3) := by decide +kernel
theorem dX2_isAboard_37 : decode cX2_isAboard 37 = .ok (.iload_n 2, 1) := by decide +kernel
theorem dX2_isAboard_38 : decode cX2_isAboard 38 = .ok (.if_icmp .ne 5, 3) := by decide +kernel
theorem dX2_isAboard_41 : decode cX2_isAboard 41 = .ok (.iconst 0, 1) := by decide +kernel
theorem dX2_isAboard_42 : decode cX2_isAboard 42 = .ok (.ireturn, 1) := by decide +kernel
theorem dX2_isAboard_43 : decode cX2_isAboard 43 = .ok (.iload_n 2, 1) := by decide +kernel
theorem dX2_isAboard_44 : decode cX2_isAboard 44 = .ok (.aload_n 0, 1) := by decide +kernel
theorem dX2_isAboard_45 : decode cX2_isAboard 45 = .ok (.getfield 43, 3) := by decide +kernel
theorem dX2_isAboard_48 : decode cX2_isAboard 48 = .ok (.getfield 58, 3) := by decide +kernel
theorem dX2_isAboard_51 : decode cX2_isAboard 51 = .ok (.if_icmp .lt 24, 3) := by decide +kernel
theorem dX2_isAboard_54 : decode cX2_isAboard 54 = .ok (.aload_n 1, 1) := by decide +kernel
theorem dX2_isAboard_55 : decode cX2_isAboard 55 = .ok (.getfield 61, 3) := by decide +kernel
theorem dX2_isAboard_58 : decode cX2_isAboard 58 = .ok (.iload_n 2, 1) := by decide +kernel
theorem dX2_isAboard_59 : decode cX2_isAboard 59 = .ok (.aload_n 0, 1) := by decide +kernel
theorem dX2_isAboard_60 : decode cX2_isAboard 60 = .ok (.getfield 43, 3) := by decide +kernel
theorem dX2_isAboard_63 : decode cX2_isAboard 63 = .ok (.getfield 58, 3) := by decide +kernel
theorem dX2_isAboard_66 : decode cX2_isAboard 66 = .ok (.isub, 1) := by decide +kernel
theorem dX2_isAboard_67 : decode cX2_isAboard 67 = .ok (.ishr, 1) := by decide +kernel
theorem dX2_isAboard_68 : decode cX2_isAboard 68 = .ok (.iconst 1, 1) := by decide +kernel
theorem dX2_isAboard_69 : decode cX2_isAboard 69 = .ok (.iand, 1) := by decide +kernel
theorem dX2_isAboard_70 : decode cX2_isAboard 70 = .ok (.ifCond .ne 5, 3) := by decide +kernel
theorem dX2_isAboard_73 : decode cX2_isAboard 73 = .ok (.iconst 0, 1) := by decide +kernel
theorem dX2_isAboard_74 : decode cX2_isAboard 74 = .ok (.ireturn, 1) := by decide +kernel
theorem dX2_isAboard_75 : decode cX2_isAboard 75 = .ok (.aload_n 0, 1) := by decide +kernel
theorem dX2_isAboard_76 : decode cX2_isAboard 76 = .ok (.getfield 43, 3) := by decide +kernel
theorem dX2_isAboard_79 : decode cX2_isAboard 79 = .ok (.getfield 64, 3) := by decide +kernel
theorem dX2_isAboard_82 : decode cX2_isAboard 82 = .ok (.iload_n 2, 1) := by decide +kernel
theorem dX2_isAboard_83 : decode cX2_isAboard 83 = .ok (.aaload, 1) := by decide +kernel
theorem dX2_isAboard_84 : decode cX2_isAboard 84 = .ok (.astore_n 3, 1) := by decide +kernel
theorem dX2_isAboard_85 : decode cX2_isAboard 85 = .ok (.aload_n 3, 1) := by decide +kernel
theorem dX2_isAboard_86 : decode cX2_isAboard 86 = .ok (.getfield 68, 3) := by decide +kernel
theorem dX2_isAboard_89 : decode cX2_isAboard 89 = .ok (.aload_n 1, 1) := by decide +kernel
theorem dX2_isAboard_90 : decode cX2_isAboard 90 = .ok (.getfield 73, 3) := by decide +kernel
theorem dX2_isAboard_93 : decode cX2_isAboard 93 = .ok (.if_icmp .gt 18, 3) := by decide +kernel
theorem dX2_isAboard_96 : decode cX2_isAboard 96 = .ok (.aload_n 1, 1) := by decide +kernel
theorem dX2_isAboard_97 : decode cX2_isAboard 97 = .ok (.getfield 73, 3) := by decide +kernel
theorem dX2_isAboard_100 : decode cX2_isAboard 100 = .ok (.aload_n 3, 1) := by decide +kernel
theorem dX2_isAboard_101 : decode cX2_isAboard 101 = .ok (.getfield 76, 3) := by decide +kernel
theorem dX2_isAboard_104 : decode cX2_isAboard 104 = .ok (.if_icmp .gt 7, 3) := by decide +kernel
theorem dX2_isAboard_107 : decode cX2_isAboard 107 = .ok (.iconst 1, 1) := by decide +kernel
theorem dX2_isAboard_108 : decode cX2_isAboard 108 = .ok (.goto 4, 3) := by decide +kernel
theorem dX2_isAboard_111 : decode cX2_isAboard 111 = .ok (.iconst 0, 1) := by decide +kernel
theorem dX2_isAboard_112 : decode cX2_isAboard 112 = .ok (.ireturn, 1) := by decide +kernel
noncomputable def b_X2_isAboard_0 (rec : Rk) (x1 x2 : Int) (h : Hp) : Option (Int × Hp) :=
  rf (gR h 2 0 0) 0 fun j1 =>
  bd (f_X0_isMouth j1 x2 h) fun v2 h3 =>
  if v2 = 0 then (
    some (0, h3)
  ) else (
    if (band (bshr (gI h3 10 x1 6) x2) 1) = 1 then (
      some (0, h3)
    ) else (
      if (gI h3 2 0 1) = 3 then (
        if (gI h3 2 0 2) = x2 then (
          some (0, h3)
        ) else (
          rec 1 [x1, x2] h3
        )
      ) else (
        rec 1 [x1, x2] h3
      )
    )
  )
noncomputable def b_X2_isAboard_1 (rec : Rk) (x1 x2 : Int) (h : Hp) : Option (Int × Hp) :=
  rf (gR h 2 0 0) 0 fun j1 =>
  if x2 < (gI h 0 j1 3) then (
    rec 2 [x1, x2] h
  ) else (
    rf (gR h 2 0 0) 0 fun j2 =>
    ck (-2147483648 ≤ x2 - (gI h 0 j2 3) ∧ x2 - (gI h 0 j2 3) < 2147483648) <|
    if (band (bshr (gI h 10 x1 5) (x2 - (gI h 0 j2 3))) 1) = 0 then (
      some (0, h)
    ) else (
      rec 2 [x1, x2] h
    )
  )
noncomputable def b_X2_isAboard_2 (rec : Rk) (x1 x2 : Int) (h : Hp) : Option (Int × Hp) :=
  rf (gR h 2 0 0) 0 fun j1 =>
  ck (0 ≤ x2 ∧ x2 < 9) <|
  rf (gR h 20 j1 x2) 4 fun j2 =>
  if (gI h 10 x1 0) < (gI h 4 j2 3) then (
    some (0, h)
  ) else (
    if (gI h 4 j2 4) < (gI h 10 x1 0) then (
      some (0, h)
    ) else (
      some (1, h)
    )
  )
noncomputable def g_X2_isAboard (n : Nat) : Rk := Nat.rec (motive := fun _ => Rk) (fun _ _ _ => none) (fun _ rec k l h => if k = 0 then b_X2_isAboard_0 rec (l.getD 0 0) (l.getD 1 0) h else if k = 1 then b_X2_isAboard_1 rec (l.getD 0 0) (l.getD 1 0) h else if k = 2 then b_X2_isAboard_2 rec (l.getD 0 0) (l.getD 1 0) h else none) n
noncomputable def f_X2_isAboard (x1 x2 : Int) (h : Hp) : Option (Int × Hp) := g_X2_isAboard FU 0 [x1, x2] h
set_option maxHeartbeats 4000000 in
set_option maxRecDepth 100000 in
theorem t_X2_isAboard_0 (E : xE) (d : Nat) (rec : Rk) (r : Int × Hp) (hr_43 : ∀ (x1 x2 : Int) (h : Hp), Lay h → rec 1 [x1, x2] h = some r → X E mX2_isAboard (d + 3) (0, 0) (0, 0) 43 [some (xr 2 0), some (xr 10 x1), some (xi x2), none] [] h (PoI r)) (x1 x2 : Int) (h : Hp) (hL : Lay h) (hF : b_X2_isAboard_0 rec x1 x2 h = some r) : X E mX2_isAboard (d + 3) (0, 0) (0, 0) 0 [some (xr 2 0), some (xr 10 x1), some (xi x2), none] [] h (PoI r) := by
  unfold b_X2_isAboard_0 at hF
  refine x_aload_n (i := 0) (b := 1) dX2_isAboard_0 rfl rfl rfl ?_
  obtain ⟨j1, e_j1, hF⟩ := rf_e hF
  refine x_getR (v := some (0, j1)) (b := 4) fk_X2_43 dX2_isAboard_1 rfl e_j1 rfl ?_
  refine x_iload_n (i := 2) (b := 5) dX2_isAboard_4 rfl rfl rfl ?_
  obtain ⟨v2, h3, hq, hF⟩ := bd_e hF
  refine x_callV (as := [xi x2]) (rest := []) (b := 8) (c_X0_isMouth d j1 x2 h _ hL hq) dX2_isAboard_5 cw_X2_47 ⟨_, _, rfl, Nat.le_of_ble_eq_true rfl⟩ rfl rfl (Nat.le_of_ble_eq_true rfl) ⟨Nat.le_refl _, Nat.le_refl _⟩ rfl (fun rv hh hp _ => ?_)
  obtain ⟨rfl, rfl, hL⟩ := hp
  refine x_if_eq (tgt := 23) (b := 11) dX2_isAboard_8 (by decide) rfl (fun hc => ?_) (fun hc => ?_)
  · replace hF := br_T hc hF
    refine x_iconst (n := 0) (b := 24) dX2_isAboard_23 (by decide) rfl ?_
    refine x_zreturn dX2_isAboard_24 rfl ⟨Nat.le_refl _, Nat.le_refl _⟩ (by decide) ?_
    cases hF
    exact ⟨rfl, rfl, hL⟩
  · replace hF := br_F hc hF
    refine x_aload_n (i := 1) (b := 12) dX2_isAboard_11 rfl rfl rfl ?_
    refine x_getI (v := gI h3 10 x1 6) (b := 15) fk_X2_53 dX2_isAboard_12 (by decide) rfl rfl ?_
    refine x_iload_n (i := 2) (b := 16) dX2_isAboard_15 rfl rfl rfl ?_
    refine x_ishr (b := 17) dX2_isAboard_16 rfl ?_
    refine x_iconst (n := 1) (b := 18) dX2_isAboard_17 (by decide) rfl ?_
    refine x_iand (b := 19) dX2_isAboard_18 rfl ?_
    refine x_iconst (n := 1) (b := 20) dX2_isAboard_19 (by decide) rfl ?_
    refine x_icmp_ne (tgt := 25) (b := 23) dX2_isAboard_20 (by decide) rfl (fun hc => ?_) (fun hc => ?_)
    · replace hF := br_F hc hF
      refine x_aload_n (i := 0) (b := 26) dX2_isAboard_25 rfl rfl rfl ?_
      refine x_getI (v := gI h3 2 0 1) (b := 29) fk_X2_9 dX2_isAboard_26 (by decide) rfl rfl ?_
      refine x_iconst (n := 3) (b := 30) dX2_isAboard_29 (by decide) rfl ?_
      refine x_icmp_ne (tgt := 43) (b := 33) dX2_isAboard_30 (by decide) rfl (fun hc => ?_) (fun hc => ?_)
      · replace hF := br_F hc hF
        exact x_dp (ls2 := [some (xr 2 0), some (xr 10 x1), some (xi x2), none]) ⟨rfl, rfl, rfl, trivial⟩ (hr_43 x1 x2 h3 hL hF)
      · replace hF := br_T hc hF
        refine x_aload_n (i := 0) (b := 34) dX2_isAboard_33 rfl rfl rfl ?_
        refine x_getI (v := gI h3 2 0 2) (b := 37) fk_X2_15 dX2_isAboard_34 (by decide) rfl rfl ?_
        refine x_iload_n (i := 2) (b := 38) dX2_isAboard_37 rfl rfl rfl ?_
        refine x_icmp_ne (tgt := 43) (b := 41) dX2_isAboard_38 (by decide) rfl (fun hc => ?_) (fun hc => ?_)
        · replace hF := br_F hc hF
          exact x_dp (ls2 := [some (xr 2 0), some (xr 10 x1), some (xi x2), none]) ⟨rfl, rfl, rfl, trivial⟩ (hr_43 x1 x2 h3 hL hF)
        · replace hF := br_T hc hF
          refine x_iconst (n := 0) (b := 42) dX2_isAboard_41 (by decide) rfl ?_
          refine x_zreturn dX2_isAboard_42 rfl ⟨Nat.le_refl _, Nat.le_refl _⟩ (by decide) ?_
          cases hF
          exact ⟨rfl, rfl, hL⟩
    · replace hF := br_T hc hF
      refine x_iconst (n := 0) (b := 24) dX2_isAboard_23 (by decide) rfl ?_
      refine x_zreturn dX2_isAboard_24 rfl ⟨Nat.le_refl _, Nat.le_refl _⟩ (by decide) ?_
      cases hF
      exact ⟨rfl, rfl, hL⟩
set_option maxHeartbeats 4000000 in
set_option maxRecDepth 100000 in
theorem t_X2_isAboard_1 (E : xE) (d : Nat) (rec : Rk) (r : Int × Hp) (hr_75 : ∀ (x1 x2 : Int) (h : Hp), Lay h → rec 2 [x1, x2] h = some r → X E mX2_isAboard (d + 3) (0, 0) (0, 0) 75 [some (xr 2 0), some (xr 10 x1), some (xi x2), none] [] h (PoI r)) (x1 x2 : Int) (h : Hp) (hL : Lay h) (hF : b_X2_isAboard_1 rec x1 x2 h = some r) : X E mX2_isAboard (d + 3) (0, 0) (0, 0) 43 [some (xr 2 0), some (xr 10 x1), some (xi x2), none] [] h (PoI r) := by
  unfold b_X2_isAboard_1 at hF
  refine x_iload_n (i := 2) (b := 44) dX2_isAboard_43 rfl rfl rfl ?_
  refine x_aload_n (i := 0) (b := 45) dX2_isAboard_44 rfl rfl rfl ?_
  obtain ⟨j1, e_j1, hF⟩ := rf_e hF
  refine x_getR (v := some (0, j1)) (b := 48) fk_X2_43 dX2_isAboard_45 rfl e_j1 rfl ?_
  refine x_getI (v := gI h 0 j1 3) (b := 51) fk_X2_58 dX2_isAboard_48 (by decide) rfl rfl ?_
  refine x_icmp_lt (tgt := 75) (b := 54) dX2_isAboard_51 (by decide) rfl (fun hc => ?_) (fun hc => ?_)
  · replace hF := br_T hc hF
    exact x_dp (ls2 := [some (xr 2 0), some (xr 10 x1), some (xi x2), none]) ⟨rfl, rfl, rfl, trivial⟩ (hr_75 x1 x2 h hL hF)
  · replace hF := br_F hc hF
    refine x_aload_n (i := 1) (b := 55) dX2_isAboard_54 rfl rfl rfl ?_
    refine x_getI (v := gI h 10 x1 5) (b := 58) fk_X2_61 dX2_isAboard_55 (by decide) rfl rfl ?_
    refine x_iload_n (i := 2) (b := 59) dX2_isAboard_58 rfl rfl rfl ?_
    refine x_aload_n (i := 0) (b := 60) dX2_isAboard_59 rfl rfl rfl ?_
    obtain ⟨j2, e_j2, hF⟩ := rf_e hF
    refine x_getR (v := some (0, j2)) (b := 63) fk_X2_43 dX2_isAboard_60 rfl e_j2 rfl ?_
    refine x_getI (v := gI h 0 j2 3) (b := 66) fk_X2_58 dX2_isAboard_63 (by decide) rfl rfl ?_
    obtain ⟨hs, hF⟩ := ck_e hF
    refine x_isub (b := 67) dX2_isAboard_66 hs rfl ?_
    refine x_ishr (b := 68) dX2_isAboard_67 rfl ?_
    refine x_iconst (n := 1) (b := 69) dX2_isAboard_68 (by decide) rfl ?_
    refine x_iand (b := 70) dX2_isAboard_69 rfl ?_
    refine x_if_ne (tgt := 75) (b := 73) dX2_isAboard_70 (by decide) rfl (fun hc => ?_) (fun hc => ?_)
    · replace hF := br_F hc hF
      exact x_dp (ls2 := [some (xr 2 0), some (xr 10 x1), some (xi x2), none]) ⟨rfl, rfl, rfl, trivial⟩ (hr_75 x1 x2 h hL hF)
    · replace hF := br_T hc hF
      refine x_iconst (n := 0) (b := 74) dX2_isAboard_73 (by decide) rfl ?_
      refine x_zreturn dX2_isAboard_74 rfl ⟨Nat.le_refl _, Nat.le_refl _⟩ (by decide) ?_
      cases hF
      exact ⟨rfl, rfl, hL⟩
set_option maxHeartbeats 4000000 in
set_option maxRecDepth 100000 in
theorem t_X2_isAboard_2 (E : xE) (d : Nat) (rec : Rk) (r : Int × Hp) (x1 x2 : Int) (h : Hp) (hL : Lay h) (hF : b_X2_isAboard_2 rec x1 x2 h = some r) : X E mX2_isAboard (d + 3) (0, 0) (0, 0) 75 [some (xr 2 0), some (xr 10 x1), some (xi x2), none] [] h (PoI r) := by
  unfold b_X2_isAboard_2 at hF
  refine x_aload_n (i := 0) (b := 76) dX2_isAboard_75 rfl rfl rfl ?_
  obtain ⟨j1, e_j1, hF⟩ := rf_e hF
  refine x_getR (v := some (0, j1)) (b := 79) fk_X2_43 dX2_isAboard_76 rfl e_j1 rfl ?_
  refine x_getL (j := j1) (t := (20, 0, true)) (b := 82) fk_X2_64 dX2_isAboard_79 rfl hL rfl rfl rfl ?_
  refine x_iload_n (i := 2) (b := 83) dX2_isAboard_82 rfl rfl rfl ?_
  obtain ⟨hs, hF⟩ := ck_e hF
  obtain ⟨j2, e_j2, hF⟩ := rf_e hF
  refine x_aaldM (v := some (4, j2)) (b := 84) ak_20 dX2_isAboard_83 hs e_j2 rfl ?_
  refine x_astore_n (i := 3) (b := 85) (ls2 := [some (xr 2 0), some (xr 10 x1), some (xi x2), some (xr 4 j2)]) dX2_isAboard_84 rfl (Nat.le_of_ble_eq_true rfl) rfl rfl ?_
  refine x_aload_n (i := 3) (b := 86) dX2_isAboard_85 rfl rfl rfl ?_
  refine x_getI (v := gI h 4 j2 3) (b := 89) fk_X2_68 dX2_isAboard_86 (by decide) rfl rfl ?_
  refine x_aload_n (i := 1) (b := 90) dX2_isAboard_89 rfl rfl rfl ?_
  refine x_getI (v := gI h 10 x1 0) (b := 93) fk_X2_73 dX2_isAboard_90 (by decide) rfl rfl ?_
  refine x_icmp_gt (tgt := 111) (b := 96) dX2_isAboard_93 (by decide) rfl (fun hc => ?_) (fun hc => ?_)
  · replace hF := br_T hc hF
    refine x_iconst (n := 0) (b := 112) dX2_isAboard_111 (by decide) rfl ?_
    refine x_zreturn dX2_isAboard_112 rfl ⟨Nat.le_refl _, Nat.le_refl _⟩ (by decide) ?_
    cases hF
    exact ⟨rfl, rfl, hL⟩
  · replace hF := br_F hc hF
    refine x_aload_n (i := 1) (b := 97) dX2_isAboard_96 rfl rfl rfl ?_
    refine x_getI (v := gI h 10 x1 0) (b := 100) fk_X2_73 dX2_isAboard_97 (by decide) rfl rfl ?_
    refine x_aload_n (i := 3) (b := 101) dX2_isAboard_100 rfl rfl rfl ?_
    refine x_getI (v := gI h 4 j2 4) (b := 104) fk_X2_76 dX2_isAboard_101 (by decide) rfl rfl ?_
    refine x_icmp_gt (tgt := 111) (b := 107) dX2_isAboard_104 (by decide) rfl (fun hc => ?_) (fun hc => ?_)
    · replace hF := br_T hc hF
      refine x_iconst (n := 0) (b := 112) dX2_isAboard_111 (by decide) rfl ?_
      refine x_zreturn dX2_isAboard_112 rfl ⟨Nat.le_refl _, Nat.le_refl _⟩ (by decide) ?_
      cases hF
      exact ⟨rfl, rfl, hL⟩
    · replace hF := br_F hc hF
      refine x_iconst (n := 1) (b := 108) dX2_isAboard_107 (by decide) rfl ?_
      refine x_goto (tgt := 112) dX2_isAboard_108 (by decide) ?_
      refine x_zreturn dX2_isAboard_112 rfl ⟨Nat.le_refl _, Nat.le_refl _⟩ (by decide) ?_
      cases hF
      exact ⟨rfl, rfl, hL⟩
set_option maxHeartbeats 4000000 in
set_option maxRecDepth 100000 in
theorem u_X2_isAboard (E : xE) (d : Nat) (r : Int × Hp) : ∀ n : Nat, (∀ (x1 x2 : Int) (h : Hp), Lay h → g_X2_isAboard n 0 [x1, x2] h = some r → X E mX2_isAboard (d + 3) (0, 0) (0, 0) 0 [some (xr 2 0), some (xr 10 x1), some (xi x2), none] [] h (PoI r)) ∧ (∀ (x1 x2 : Int) (h : Hp), Lay h → g_X2_isAboard n 1 [x1, x2] h = some r → X E mX2_isAboard (d + 3) (0, 0) (0, 0) 43 [some (xr 2 0), some (xr 10 x1), some (xi x2), none] [] h (PoI r)) ∧ (∀ (x1 x2 : Int) (h : Hp), Lay h → g_X2_isAboard n 2 [x1, x2] h = some r → X E mX2_isAboard (d + 3) (0, 0) (0, 0) 75 [some (xr 2 0), some (xr 10 x1), some (xi x2), none] [] h (PoI r)) := by
  intro n
  induction n with
  | zero => exact ⟨fun _ _ _ _ hF => no_e (r := r) hF, fun _ _ _ _ hF => no_e (r := r) hF, fun _ _ _ _ hF => no_e (r := r) hF⟩
  | succ n ih => exact ⟨fun x1 x2 h hL hF => t_X2_isAboard_0 E d (g_X2_isAboard n) r ih.2.1 x1 x2 h hL hF, fun x1 x2 h hL hF => t_X2_isAboard_1 E d (g_X2_isAboard n) r ih.2.2 x1 x2 h hL hF, fun x1 x2 h hL hF => t_X2_isAboard_2 E d (g_X2_isAboard n) r  x1 x2 h hL hF⟩
theorem c_X2_isAboard (d : Nat) (x1 x2 : Int) (h : Hp) (r : Int × Hp) (hL : Lay h) (hF : f_X2_isAboard x1 x2 h = some r) : Sp mX2_isAboard (d + 3) (0, 0) [xr 2 0, xr 10 x1, xi x2] h (PoI r) :=
  sp_of (by decide) rfl (Nat.le_of_ble_eq_true rfl) (ls := [some (xr 2 0), some (xr 10 x1), some (xi x2), none]) rfl (fun E _ => (u_X2_isAboard E d r FU).1 x1 x2 h hL hF)
theorem dX2_openPage_0 : decode cX2_openPage 0 = .ok (.aload_n 0, 1) := by decide +kernel
theorem dX2_openPage_1 : decode cX2_openPage 1 = .ok (.iload_n 1, 1) := by decide +kernel
theorem dX2_openPage_2 : decode cX2_openPage 2 = .ok (.invokevirtual 150, 3) := by decide +kernel
theorem dX2_openPage_5 : decode cX2_openPage 5 = .ok (.iconst 0, 1) := by decide +kernel
theorem dX2_openPage_6 : decode cX2_openPage 6 = .ok (.aload_n 0, 1) := by decide +kernel
theorem dX2_openPage_7 : decode cX2_openPage 7 = .ok (.getfield 40, 3) := by decide +kernel
theorem dX2_openPage_10 : decode cX2_openPage 10 = .ok (.invokestatic 154, 3) := by decide +kernel
theorem dX2_openPage_13 : decode cX2_openPage 13 = .ok (.istore_n 2, 1) := by decide +kernel
theorem dX2_openPage_14 : decode cX2_openPage 14 = .ok (.aload_n 0, 1) := by decide +kernel
theorem dX2_openPage_15 : decode cX2_openPage 15 = .ok (.getfield 40, 3) := by decide +kernel
theorem dX2_openPage_18 : decode cX2_openPage 18 = .ok (.ifCond .lt 28, 3) := by decide +kernel
theorem dX2_openPage_21 : decode cX2_openPage 21 = .ok (.iload_n 2, 1) := by decide +kernel
theorem dX2_openPage_22 : decode cX2_openPage 22 = .ok (.aload_n 0, 1) := by decide +kernel
theorem dX2_openPage_23 : decode cX2_openPage 23 = .ok (.getfield 40, 3) := by decide +kernel
theorem dX2_openPage_26 : decode cX2_openPage 26 = .ok (.bipush 90, 2) := by decide +kernel
theorem dX2_openPage_28 : decode cX2_openPage 28 = .ok (.iadd, 1) := by decide +kernel
theorem dX2_openPage_29 : decode cX2_openPage 29 = .ok (.if_icmp .ge 17, 3) := by decide +kernel
theorem dX2_openPage_32 : decode cX2_openPage 32 = .ok (.aload_n 0, 1) := by decide +kernel
theorem dX2_openPage_33 : decode cX2_openPage 33 = .ok (.getfield 37, 3) := by decide +kernel
theorem dX2_openPage_36 : decode cX2_openPage 36 = .ok (.iload_n 2, 1) := by decide +kernel
theorem dX2_openPage_37 : decode cX2_openPage 37 = .ok (.bipush (-2), 2) := by decide +kernel
theorem dX2_openPage_39 : decode cX2_openPage 39 = .ok (.iastore, 1) := by decide +kernel
theorem dX2_openPage_40 : decode cX2_openPage 40 = .ok (.iinc 2 1, 3) := by decide +kernel
theorem dX2_openPage_43 : decode cX2_openPage 43 = .ok (.goto (-29), 3) := by decide +kernel
theorem dX2_openPage_46 : decode cX2_openPage 46 = .ok (.return_, 1) := by decide +kernel
noncomputable def b_X2_openPage_0 (rec : Rk) (x1 : Int) (h : Hp) : Option (Int × Hp) :=
  bd (f_X2_usePage x1 h) fun v1 h2 =>
  lt (max 0 (gI h2 2 0 10)) fun z3 =>
  rec 1 [z3] h2
noncomputable def b_X2_openPage_1 (rec : Rk) (x2 : Int) (h : Hp) : Option (Int × Hp) :=
  if (gI h 2 0 10) < 0 then (
    some (0, h)
  ) else (
    ck (-2147483648 ≤ (gI h 2 0 10) + 90 ∧ (gI h 2 0 10) + 90 < 2147483648) <|
    if ((gI h 2 0 10) + 90) ≤ x2 then (
      some (0, h)
    ) else (
      ck (0 ≤ x2 ∧ x2 < 270) <|
      lt (sI h 33 0 x2 (-2)) fun h1 =>
      ck (-2147483648 ≤ x2 + 1 ∧ x2 + 1 < 2147483648) <|
      rec 1 [x2 + 1] h1
    )
  )
noncomputable def g_X2_openPage (n : Nat) : Rk := Nat.rec (motive := fun _ => Rk) (fun _ _ _ => none) (fun _ rec k l h => if k = 0 then b_X2_openPage_0 rec (l.getD 0 0) h else if k = 1 then b_X2_openPage_1 rec (l.getD 0 0) h else none) n
noncomputable def f_X2_openPage (x1 : Int) (h : Hp) : Option (Int × Hp) := g_X2_openPage FU 0 [x1] h
set_option maxHeartbeats 4000000 in
set_option maxRecDepth 100000 in
theorem t_X2_openPage_0 (E : xE) (d : Nat) (rec : Rk) (r : Int × Hp) (hr_14 : ∀ (x2 : Int) (h : Hp), Lay h → rec 1 [x2] h = some r → X E mX2_openPage (d + 2) (0, 0) (0, 0) 14 [some (xr 2 0), none, some (xi x2)] [] h (PoV r)) (x1 : Int) (h : Hp) (hL : Lay h) (hF : b_X2_openPage_0 rec x1 h = some r) : X E mX2_openPage (d + 2) (0, 0) (0, 0) 0 [some (xr 2 0), some (xi x1), none] [] h (PoV r) := by
  unfold b_X2_openPage_0 at hF
  refine x_aload_n (i := 0) (b := 1) dX2_openPage_0 rfl rfl rfl ?_
  refine x_iload_n (i := 1) (b := 2) dX2_openPage_1 rfl rfl rfl ?_
  obtain ⟨v1, h2, hq, hF⟩ := bd_e hF
  refine x_callV (as := [xi x1]) (rest := []) (b := 5) (c_X2_usePage d x1 h _ hL hq) dX2_openPage_2 cw_X2_150 ⟨_, _, rfl, Nat.le_of_ble_eq_true rfl⟩ rfl rfl (Nat.le_of_ble_eq_true rfl) ⟨Nat.le_refl _, Nat.le_refl _⟩ rfl (fun rv hh hp _ => ?_)
  obtain ⟨rfl, rfl, hL⟩ := hp
  refine x_iconst (n := 0) (b := 6) dX2_openPage_5 (by decide) rfl ?_
  refine x_aload_n (i := 0) (b := 7) dX2_openPage_6 rfl rfl rfl ?_
  refine x_getI (v := gI h2 2 0 10) (b := 10) fk_X2_40 dX2_openPage_7 (by decide) rfl rfl ?_
  refine x_max (b := 13) dX2_openPage_10 mw_X2_154 (Nat.le_of_ble_eq_true rfl) ⟨Nat.le_refl _, Nat.le_refl _⟩ rfl ?_
  obtain ⟨z3, e_z3, hF⟩ := lt_e hF
  refine x_eq (y := z3) e_z3 ?_
  refine x_istore_n (i := 2) (b := 14) (ls2 := [some (xr 2 0), some (xi x1), some (xi z3)]) dX2_openPage_13 rfl (Nat.le_of_ble_eq_true rfl) rfl rfl ?_
  exact x_dp (ls2 := [some (xr 2 0), none, some (xi z3)]) ⟨rfl, rfl, trivial⟩ (hr_14 z3 h2 hL hF)
set_option maxHeartbeats 4000000 in
set_option maxRecDepth 100000 in
theorem t_X2_openPage_1 (E : xE) (d : Nat) (rec : Rk) (r : Int × Hp) (hr_14 : ∀ (x2 : Int) (h : Hp), Lay h → rec 1 [x2] h = some r → X E mX2_openPage (d + 2) (0, 0) (0, 0) 14 [some (xr 2 0), none, some (xi x2)] [] h (PoV r)) (x2 : Int) (h : Hp) (hL : Lay h) (hF : b_X2_openPage_1 rec x2 h = some r) : X E mX2_openPage (d + 2) (0, 0) (0, 0) 14 [some (xr 2 0), none, some (xi x2)] [] h (PoV r) := by
  unfold b_X2_openPage_1 at hF
  refine x_aload_n (i := 0) (b := 15) dX2_openPage_14 rfl rfl rfl ?_
  refine x_getI (v := gI h 2 0 10) (b := 18) fk_X2_40 dX2_openPage_15 (by decide) rfl rfl ?_
  refine x_if_lt (tgt := 46) (b := 21) dX2_openPage_18 (by decide) rfl (fun hc => ?_) (fun hc => ?_)
  · replace hF := br_T hc hF
    refine x_return dX2_openPage_46 rfl ⟨Nat.le_refl _, Nat.le_refl _⟩ ?_
    cases hF
    exact ⟨rfl, rfl, hL⟩
  · replace hF := br_F hc hF
    refine x_iload_n (i := 2) (b := 22) dX2_openPage_21 rfl rfl rfl ?_
    refine x_aload_n (i := 0) (b := 23) dX2_openPage_22 rfl rfl rfl ?_
    refine x_getI (v := gI h 2 0 10) (b := 26) fk_X2_40 dX2_openPage_23 (by decide) rfl rfl ?_
    refine x_bipush (n := 90) (b := 28) dX2_openPage_26 (by decide) rfl ?_
    obtain ⟨hs, hF⟩ := ck_e hF
    refine x_iadd (b := 29) dX2_openPage_28 hs rfl ?_
    refine x_icmp_ge (tgt := 46) (b := 32) dX2_openPage_29 (by decide) rfl (fun hc => ?_) (fun hc => ?_)
    · replace hF := br_T hc hF
      refine x_return dX2_openPage_46 rfl ⟨Nat.le_refl _, Nat.le_refl _⟩ ?_
      cases hF
      exact ⟨rfl, rfl, hL⟩
    · replace hF := br_F hc hF
      refine x_aload_n (i := 0) (b := 33) dX2_openPage_32 rfl rfl rfl ?_
      refine x_getL (j := 0) (t := (33, 0, true)) (b := 36) fk_X2_37 dX2_openPage_33 rfl hL rfl rfl rfl ?_
      refine x_iload_n (i := 2) (b := 37) dX2_openPage_36 rfl rfl rfl ?_
      refine x_bipush (n := (-2)) (b := 39) dX2_openPage_37 (by decide) rfl ?_
      obtain ⟨hs, hF⟩ := ck_e hF
      have hs1 := hs
      refine x_iast (b := 40) ak_33 dX2_openPage_39 hs1 rfl ?_
      obtain ⟨h1, e_h1, hF⟩ := lt_e hF
      refine x_hp (h2 := h1) e_h1 ?_
      replace hL : Lay h1 := by rw [← e_h1]; exact hL
      obtain ⟨hs, hF⟩ := ck_e hF
      refine x_iinc (i := 2) (b := 43) (ls2 := [some (xr 2 0), none, some (xi (x2 + 1))]) dX2_openPage_40 rfl (Nat.le_of_ble_eq_true rfl) hs rfl rfl ?_
      refine x_goto (tgt := 14) dX2_openPage_43 (by decide) ?_
      exact x_dp (ls2 := [some (xr 2 0), none, some (xi (x2 + 1))]) ⟨rfl, rfl, trivial⟩ (hr_14 (x2 + 1) h1 hL hF)
set_option maxHeartbeats 4000000 in
set_option maxRecDepth 100000 in
theorem u_X2_openPage (E : xE) (d : Nat) (r : Int × Hp) : ∀ n : Nat, (∀ (x1 : Int) (h : Hp), Lay h → g_X2_openPage n 0 [x1] h = some r → X E mX2_openPage (d + 2) (0, 0) (0, 0) 0 [some (xr 2 0), some (xi x1), none] [] h (PoV r)) ∧ (∀ (x2 : Int) (h : Hp), Lay h → g_X2_openPage n 1 [x2] h = some r → X E mX2_openPage (d + 2) (0, 0) (0, 0) 14 [some (xr 2 0), none, some (xi x2)] [] h (PoV r)) := by
  intro n
  induction n with
  | zero => exact ⟨fun _ _ _ hF => no_e (r := r) hF, fun _ _ _ hF => no_e (r := r) hF⟩
  | succ n ih => exact ⟨fun x1 h hL hF => t_X2_openPage_0 E d (g_X2_openPage n) r ih.2 x1 h hL hF, fun x2 h hL hF => t_X2_openPage_1 E d (g_X2_openPage n) r ih.2 x2 h hL hF⟩
theorem c_X2_openPage (d : Nat) (x1 : Int) (h : Hp) (r : Int × Hp) (hL : Lay h) (hF : f_X2_openPage x1 h = some r) : Sp mX2_openPage (d + 2) (0, 0) [xr 2 0, xi x1] h (PoV r) :=
  sp_of (by decide) rfl (Nat.le_of_ble_eq_true rfl) (ls := [some (xr 2 0), some (xi x1), none]) rfl (fun E _ => (u_X2_openPage E d r FU).1 x1 h hL hF)
theorem dX2_portion_0 : decode cX2_portion 0 = .ok (.aload_n 0, 1) := by decide +kernel
theorem dX2_portion_1 : decode cX2_portion 1 = .ok (.getfield 43, 3) := by decide +kernel
theorem dX2_portion_4 : decode cX2_portion 4 = .ok (.iload_n 2, 1) := by decide +kernel
theorem dX2_portion_5 : decode cX2_portion 5 = .ok (.invokevirtual 47, 3) := by decide +kernel
theorem dX2_portion_8 : decode cX2_portion 8 = .ok (.ifCond .ne 5, 3) := by decide +kernel
theorem dX2_portion_11 : decode cX2_portion 11 = .ok (.iconst 0, 1) := by decide +kernel
theorem dX2_portion_12 : decode cX2_portion 12 = .ok (.ireturn, 1) := by decide +kernel
theorem dX2_portion_13 : decode cX2_portion 13 = .ok (.aload_n 0, 1) := by decide +kernel
theorem dX2_portion_14 : decode cX2_portion 14 = .ok (.getfield 43, 3) := by decide +kernel
theorem dX2_portion_17 : decode cX2_portion 17 = .ok (.getfield 64, 3) := by decide +kernel
theorem dX2_portion_20 : decode cX2_portion 20 = .ok (.iload_n 2, 1) := by decide +kernel
theorem dX2_portion_21 : decode cX2_portion 21 = .ok (.aaload, 1) := by decide +kernel
theorem dX2_portion_22 : decode cX2_portion 22 = .ok (.astore_n 3, 1) := by decide +kernel
theorem dX2_portion_23 : decode cX2_portion 23 = .ok (.aload_n 3, 1) := by decide +kernel
theorem dX2_portion_24 : decode cX2_portion 24 = .ok (.getfield 87, 3) := by decide +kernel
theorem dX2_portion_27 : decode cX2_portion 27 = .ok (.aload_n 1, 1) := by decide +kernel
theorem dX2_portion_28 : decode cX2_portion 28 = .ok (.getfield 73, 3) := by decide +kernel
theorem dX2_portion_31 : decode cX2_portion 31 = .ok (.if_icmp .gt 18, 3) := by decide +kernel
theorem dX2_portion_34 : decode cX2_portion 34 = .ok (.aload_n 1, 1) := by decide +kernel
theorem dX2_portion_35 : decode cX2_portion 35 = .ok (.getfield 73, 3) := by decide +kernel
theorem dX2_portion_38 : decode cX2_portion 38 = .ok (.aload_n 3, 1) := by decide +kernel
theorem dX2_portion_39 : decode cX2_portion 39 = .ok (.getfield 90, 3) := by decide +kernel
theorem dX2_portion_42 : decode cX2_portion 42 = .ok (.if_icmp .gt 7, 3) := by decide +kernel
theorem dX2_portion_45 : decode cX2_portion 45 = .ok (.iconst 1, 1) := by decide +kernel
theorem dX2_portion_46 : decode cX2_portion 46 = .ok (.goto 4, 3) := by decide +kernel
theorem dX2_portion_49 : decode cX2_portion 49 = .ok (.iconst 0, 1) := by decide +kernel
theorem dX2_portion_50 : decode cX2_portion 50 = .ok (.istore 4, 2) := by decide +kernel
theorem dX2_portion_52 : decode cX2_portion 52 = .ok (.iload 4, 2) := by decide +kernel
theorem dX2_portion_54 : decode cX2_portion 54 = .ok (.ifCond .eq 14, 3) := by decide +kernel
theorem dX2_portion_57 : decode cX2_portion 57 = .ok (.aload_n 0, 1) := by decide +kernel
theorem dX2_portion_58 : decode cX2_portion 58 = .ok (.getfield 9, 3) := by decide +kernel
theorem dX2_portion_61 : decode cX2_portion 61 = .ok (.ifCond .eq 7, 3) := by decide +kernel
theorem dX2_portion_64 : decode cX2_portion 64 = .ok (.iconst 0, 1) := by decide +kernel
theorem dX2_portion_65 : decode cX2_portion 65 = .ok (.goto 7, 3) := by decide +kernel
theorem dX2_portion_68 : decode cX2_portion 68 = .ok (.aload_n 3, 1) := by decide +kernel
theorem dX2_portion_69 : decode cX2_portion 69 = .ok (.getfield 93, 3) := by decide +kernel
theorem dX2_portion_72 : decode cX2_portion 72 = .ok (.ireturn, 1) := by decide +kernel
noncomputable def b_X2_portion_0 (rec : Rk) (x1 x2 : Int) (h : Hp) : Option (Int × Hp) :=
  rf (gR h 2 0 0) 0 fun j1 =>
  bd (f_X0_isMouth j1 x2 h) fun v2 h3 =>
  if v2 = 0 then (
    some (0, h3)
  ) else (
    rf (gR h3 2 0 0) 0 fun j4 =>
    ck (0 ≤ x2 ∧ x2 < 9) <|
    rf (gR h3 20 j4 x2) 4 fun j5 =>
    if (gI h3 10 x1 0) < (gI h3 4 j5 5) then (
      rec 1 [j5] h3
    ) else (
      if (gI h3 4 j5 6) < (gI h3 10 x1 0) then (
        rec 1 [j5] h3
      ) else (
        rec 2 [j5, 1] h3
      )
    )
  )
noncomputable def b_X2_portion_1 (rec : Rk) (x3 : Int) (h : Hp) : Option (Int × Hp) :=
  rec 2 [x3, 0] h
noncomputable def b_X2_portion_2 (rec : Rk) (x3 y0 : Int) (h : Hp) : Option (Int × Hp) :=
  if y0 = 0 then (
    some (gI h 4 x3 1, h)
  ) else (
    if (gI h 2 0 1) = 0 then (
      some (gI h 4 x3 1, h)
    ) else (
      some (0, h)
    )
  )
noncomputable def g_X2_portion (n : Nat) : Rk := Nat.rec (motive := fun _ => Rk) (fun _ _ _ => none) (fun _ rec k l h => if k = 0 then b_X2_portion_0 rec (l.getD 0 0) (l.getD 1 0) h else if k = 1 then b_X2_portion_1 rec (l.getD 0 0) h else if k = 2 then b_X2_portion_2 rec (l.getD 0 0) (l.getD 1 0) h else none) n
noncomputable def f_X2_portion (x1 x2 : Int) (h : Hp) : Option (Int × Hp) := g_X2_portion FU 0 [x1, x2] h
set_option maxHeartbeats 4000000 in
set_option maxRecDepth 100000 in
theorem t_X2_portion_0 (E : xE) (d : Nat) (rec : Rk) (r : Int × Hp) (hr_49 : ∀ (x3 : Int) (h : Hp), Lay h → rec 1 [x3] h = some r → X E mX2_portion (d + 3) (0, 0) (0, 0) 49 [some (xr 2 0), none, none, some (xr 4 x3), none] [] h (PoI r)) (hr_50 : ∀ (x3 y0 : Int) (h : Hp), Lay h → rec 2 [x3, y0] h = some r → X E mX2_portion (d + 3) (0, 0) (0, 0) 50 [some (xr 2 0), none, none, some (xr 4 x3), none] [xi y0] h (PoI r)) (x1 x2 : Int) (h : Hp) (hL : Lay h) (hF : b_X2_portion_0 rec x1 x2 h = some r) : X E mX2_portion (d + 3) (0, 0) (0, 0) 0 [some (xr 2 0), some (xr 10 x1), some (xi x2), none, none] [] h (PoI r) := by
  unfold b_X2_portion_0 at hF
  refine x_aload_n (i := 0) (b := 1) dX2_portion_0 rfl rfl rfl ?_
  obtain ⟨j1, e_j1, hF⟩ := rf_e hF
  refine x_getR (v := some (0, j1)) (b := 4) fk_X2_43 dX2_portion_1 rfl e_j1 rfl ?_
  refine x_iload_n (i := 2) (b := 5) dX2_portion_4 rfl rfl rfl ?_
  obtain ⟨v2, h3, hq, hF⟩ := bd_e hF
  refine x_callV (as := [xi x2]) (rest := []) (b := 8) (c_X0_isMouth d j1 x2 h _ hL hq) dX2_portion_5 cw_X2_47 ⟨_, _, rfl, Nat.le_of_ble_eq_true rfl⟩ rfl rfl (Nat.le_of_ble_eq_true rfl) ⟨Nat.le_refl _, Nat.le_refl _⟩ rfl (fun rv hh hp _ => ?_)
  obtain ⟨rfl, rfl, hL⟩ := hp
  refine x_if_ne (tgt := 13) (b := 11) dX2_portion_8 (by decide) rfl (fun hc => ?_) (fun hc => ?_)
  · replace hF := br_F hc hF
    refine x_aload_n (i := 0) (b := 14) dX2_portion_13 rfl rfl rfl ?_
    obtain ⟨j4, e_j4, hF⟩ := rf_e hF
    refine x_getR (v := some (0, j4)) (b := 17) fk_X2_43 dX2_portion_14 rfl e_j4 rfl ?_
    refine x_getL (j := j4) (t := (20, 0, true)) (b := 20) fk_X2_64 dX2_portion_17 rfl hL rfl rfl rfl ?_
    refine x_iload_n (i := 2) (b := 21) dX2_portion_20 rfl rfl rfl ?_
    obtain ⟨hs, hF⟩ := ck_e hF
    obtain ⟨j5, e_j5, hF⟩ := rf_e hF
    refine x_aaldM (v := some (4, j5)) (b := 22) ak_20 dX2_portion_21 hs e_j5 rfl ?_
    refine x_astore_n (i := 3) (b := 23) (ls2 := [some (xr 2 0), some (xr 10 x1), some (xi x2), some (xr 4 j5), none]) dX2_portion_22 rfl (Nat.le_of_ble_eq_true rfl) rfl rfl ?_
    refine x_aload_n (i := 3) (b := 24) dX2_portion_23 rfl rfl rfl ?_
    refine x_getI (v := gI h3 4 j5 5) (b := 27) fk_X2_87 dX2_portion_24 (by decide) rfl rfl ?_
    refine x_aload_n (i := 1) (b := 28) dX2_portion_27 rfl rfl rfl ?_
    refine x_getI (v := gI h3 10 x1 0) (b := 31) fk_X2_73 dX2_portion_28 (by decide) rfl rfl ?_
    refine x_icmp_gt (tgt := 49) (b := 34) dX2_portion_31 (by decide) rfl (fun hc => ?_) (fun hc => ?_)
    · replace hF := br_T hc hF
      exact x_dp (ls2 := [some (xr 2 0), none, none, some (xr 4 j5), none]) ⟨rfl, rfl, trivial⟩ (hr_49 j5 h3 hL hF)
    · replace hF := br_F hc hF
      refine x_aload_n (i := 1) (b := 35) dX2_portion_34 rfl rfl rfl ?_
      refine x_getI (v := gI h3 10 x1 0) (b := 38) fk_X2_73 dX2_portion_35 (by decide) rfl rfl ?_
      refine x_aload_n (i := 3) (b := 39) dX2_portion_38 rfl rfl rfl ?_
      refine x_getI (v := gI h3 4 j5 6) (b := 42) fk_X2_90 dX2_portion_39 (by decide) rfl rfl ?_
      refine x_icmp_gt (tgt := 49) (b := 45) dX2_portion_42 (by decide) rfl (fun hc => ?_) (fun hc => ?_)
      · replace hF := br_T hc hF
        exact x_dp (ls2 := [some (xr 2 0), none, none, some (xr 4 j5), none]) ⟨rfl, rfl, trivial⟩ (hr_49 j5 h3 hL hF)
      · replace hF := br_F hc hF
        refine x_iconst (n := 1) (b := 46) dX2_portion_45 (by decide) rfl ?_
        refine x_goto (tgt := 50) dX2_portion_46 (by decide) ?_
        exact x_dp (ls2 := [some (xr 2 0), none, none, some (xr 4 j5), none]) ⟨rfl, rfl, trivial⟩ (hr_50 j5 1 h3 hL hF)
  · replace hF := br_T hc hF
    refine x_iconst (n := 0) (b := 12) dX2_portion_11 (by decide) rfl ?_
    refine x_ireturn dX2_portion_12 rfl ⟨Nat.le_refl _, Nat.le_refl _⟩ ?_
    cases hF
    exact ⟨rfl, rfl, hL⟩
set_option maxHeartbeats 4000000 in
set_option maxRecDepth 100000 in
theorem t_X2_portion_1 (E : xE) (d : Nat) (rec : Rk) (r : Int × Hp) (hr_50 : ∀ (x3 y0 : Int) (h : Hp), Lay h → rec 2 [x3, y0] h = some r → X E mX2_portion (d + 3) (0, 0) (0, 0) 50 [some (xr 2 0), none, none, some (xr 4 x3), none] [xi y0] h (PoI r)) (x3 : Int) (h : Hp) (hL : Lay h) (hF : b_X2_portion_1 rec x3 h = some r) : X E mX2_portion (d + 3) (0, 0) (0, 0) 49 [some (xr 2 0), none, none, some (xr 4 x3), none] [] h (PoI r) := by
  unfold b_X2_portion_1 at hF
  refine x_iconst (n := 0) (b := 50) dX2_portion_49 (by decide) rfl ?_
  exact x_dp (ls2 := [some (xr 2 0), none, none, some (xr 4 x3), none]) ⟨rfl, rfl, trivial⟩ (hr_50 x3 0 h hL hF)
set_option maxHeartbeats 4000000 in
set_option maxRecDepth 100000 in
theorem t_X2_portion_2 (E : xE) (d : Nat) (rec : Rk) (r : Int × Hp) (x3 y0 : Int) (h : Hp) (hL : Lay h) (hF : b_X2_portion_2 rec x3 y0 h = some r) : X E mX2_portion (d + 3) (0, 0) (0, 0) 50 [some (xr 2 0), none, none, some (xr 4 x3), none] [xi y0] h (PoI r) := by
  unfold b_X2_portion_2 at hF
  refine x_istore (i := 4) (b := 52) (ls2 := [some (xr 2 0), none, none, some (xr 4 x3), some (xi y0)]) dX2_portion_50 (Nat.le_of_ble_eq_true rfl) rfl rfl ?_
  refine x_iload (i := 4) (b := 54) dX2_portion_52 rfl rfl ?_
  refine x_if_eq (tgt := 68) (b := 57) dX2_portion_54 (by decide) rfl (fun hc => ?_) (fun hc => ?_)
  · replace hF := br_T hc hF
    refine x_aload_n (i := 3) (b := 69) dX2_portion_68 rfl rfl rfl ?_
    refine x_getI (v := gI h 4 x3 1) (b := 72) fk_X2_93 dX2_portion_69 (by decide) rfl rfl ?_
    refine x_ireturn dX2_portion_72 rfl ⟨Nat.le_refl _, Nat.le_refl _⟩ ?_
    cases hF
    exact ⟨rfl, rfl, hL⟩
  · replace hF := br_F hc hF
    refine x_aload_n (i := 0) (b := 58) dX2_portion_57 rfl rfl rfl ?_
    refine x_getI (v := gI h 2 0 1) (b := 61) fk_X2_9 dX2_portion_58 (by decide) rfl rfl ?_
    refine x_if_eq (tgt := 68) (b := 64) dX2_portion_61 (by decide) rfl (fun hc => ?_) (fun hc => ?_)
    · replace hF := br_T hc hF
      refine x_aload_n (i := 3) (b := 69) dX2_portion_68 rfl rfl rfl ?_
      refine x_getI (v := gI h 4 x3 1) (b := 72) fk_X2_93 dX2_portion_69 (by decide) rfl rfl ?_
      refine x_ireturn dX2_portion_72 rfl ⟨Nat.le_refl _, Nat.le_refl _⟩ ?_
      cases hF
      exact ⟨rfl, rfl, hL⟩
    · replace hF := br_F hc hF
      refine x_iconst (n := 0) (b := 65) dX2_portion_64 (by decide) rfl ?_
      refine x_goto (tgt := 72) dX2_portion_65 (by decide) ?_
      refine x_ireturn dX2_portion_72 rfl ⟨Nat.le_refl _, Nat.le_refl _⟩ ?_
      cases hF
      exact ⟨rfl, rfl, hL⟩
set_option maxHeartbeats 4000000 in
set_option maxRecDepth 100000 in
theorem u_X2_portion (E : xE) (d : Nat) (r : Int × Hp) : ∀ n : Nat, (∀ (x1 x2 : Int) (h : Hp), Lay h → g_X2_portion n 0 [x1, x2] h = some r → X E mX2_portion (d + 3) (0, 0) (0, 0) 0 [some (xr 2 0), some (xr 10 x1), some (xi x2), none, none] [] h (PoI r)) ∧ (∀ (x3 : Int) (h : Hp), Lay h → g_X2_portion n 1 [x3] h = some r → X E mX2_portion (d + 3) (0, 0) (0, 0) 49 [some (xr 2 0), none, none, some (xr 4 x3), none] [] h (PoI r)) ∧ (∀ (x3 y0 : Int) (h : Hp), Lay h → g_X2_portion n 2 [x3, y0] h = some r → X E mX2_portion (d + 3) (0, 0) (0, 0) 50 [some (xr 2 0), none, none, some (xr 4 x3), none] [xi y0] h (PoI r)) := by
  intro n
  induction n with
  | zero => exact ⟨fun _ _ _ _ hF => no_e (r := r) hF, fun _ _ _ hF => no_e (r := r) hF, fun _ _ _ _ hF => no_e (r := r) hF⟩
  | succ n ih => exact ⟨fun x1 x2 h hL hF => t_X2_portion_0 E d (g_X2_portion n) r ih.2.1 ih.2.2 x1 x2 h hL hF, fun x3 h hL hF => t_X2_portion_1 E d (g_X2_portion n) r ih.2.2 x3 h hL hF, fun x3 y0 h hL hF => t_X2_portion_2 E d (g_X2_portion n) r  x3 y0 h hL hF⟩
theorem c_X2_portion (d : Nat) (x1 x2 : Int) (h : Hp) (r : Int × Hp) (hL : Lay h) (hF : f_X2_portion x1 x2 h = some r) : Sp mX2_portion (d + 3) (0, 0) [xr 2 0, xr 10 x1, xi x2] h (PoI r) :=
  sp_of (by decide) rfl (Nat.le_of_ble_eq_true rfl) (ls := [some (xr 2 0), some (xr 10 x1), some (xi x2), none, none]) rfl (fun E _ => (u_X2_portion E d r FU).1 x1 x2 h hL hF)
theorem dX2_sail_0 : decode cX2_sail 0 = .ok (.aload_n 1, 1) := by decide +kernel
theorem dX2_sail_1 : decode cX2_sail 1 = .ok (.aload_n 0, 1) := by decide +kernel
theorem dX2_sail_2 : decode cX2_sail 2 = .ok (.aload_n 1, 1) := by decide +kernel
theorem dX2_sail_3 : decode cX2_sail 3 = .ok (.iload_n 2, 1) := by decide +kernel
theorem dX2_sail_4 : decode cX2_sail 4 = .ok (.invokevirtual 217, 3) := by decide +kernel
theorem dX2_sail_7 : decode cX2_sail 7 = .ok (.putfield 157, 3) := by decide +kernel
theorem dX2_sail_10 : decode cX2_sail 10 = .ok (.aload_n 1, 1) := by decide +kernel
theorem dX2_sail_11 : decode cX2_sail 11 = .ok (.dup, 1) := by decide +kernel
theorem dX2_sail_12 : decode cX2_sail 12 = .ok (.getfield 99, 3) := by decide +kernel
theorem dX2_sail_15 : decode cX2_sail 15 = .ok (.aload_n 0, 1) := by decide +kernel
theorem dX2_sail_16 : decode cX2_sail 16 = .ok (.getfield 9, 3) := by decide +kernel
theorem dX2_sail_19 : decode cX2_sail 19 = .ok (.iconst 4, 1) := by decide +kernel
theorem dX2_sail_20 : decode cX2_sail 20 = .ok (.if_icmp .ne 7, 3) := by decide +kernel
theorem dX2_sail_23 : decode cX2_sail 23 = .ok (.iconst 0, 1) := by decide +kernel
theorem dX2_sail_24 : decode cX2_sail 24 = .ok (.goto 7, 3) := by decide +kernel
theorem dX2_sail_27 : decode cX2_sail 27 = .ok (.aload_n 0, 1) := by decide +kernel
theorem dX2_sail_28 : decode cX2_sail 28 = .ok (.getfield 31, 3) := by decide +kernel
theorem dX2_sail_31 : decode cX2_sail 31 = .ok (.isub, 1) := by decide +kernel
theorem dX2_sail_32 : decode cX2_sail 32 = .ok (.putfield 99, 3) := by decide +kernel
theorem dX2_sail_35 : decode cX2_sail 35 = .ok (.iconst 0, 1) := by decide +kernel
theorem dX2_sail_36 : decode cX2_sail 36 = .ok (.istore_n 3, 1) := by decide +kernel
theorem dX2_sail_37 : decode cX2_sail 37 = .ok (.iload_n 3, 1) := by decide +kernel
theorem dX2_sail_38 : decode cX2_sail 38 = .ok (.aload_n 0, 1) := by decide +kernel
theorem dX2_sail_39 : decode cX2_sail 39 = .ok (.getfield 43, 3) := by decide +kernel
theorem dX2_sail_42 : decode cX2_sail 42 = .ok (.invokevirtual 79, 3) := by decide +kernel
theorem dX2_sail_45 : decode cX2_sail 45 = .ok (.if_icmp .ge 88, 3) := by decide +kernel
theorem dX2_sail_48 : decode cX2_sail 48 = .ok (.aload_n 0, 1) := by decide +kernel
theorem dX2_sail_49 : decode cX2_sail 49 = .ok (.getfield 22, 3) := by decide +kernel
theorem dX2_sail_52 : decode cX2_sail 52 = .ok (.iload_n 3, 1) := by decide +kernel
theorem dX2_sail_53 : decode cX2_sail 53 = .ok (.iaload, 1) := by decide +kernel
theorem dX2_sail_54 : decode cX2_sail 54 = .ok (.iconst (-1), 1) := by decide +kernel
theorem dX2_sail_55 : decode cX2_sail 55 = .ok (.if_icmp .eq 72, 3) := by decide +kernel
theorem dX2_sail_58 : decode cX2_sail 58 = .ok (.aload_n 1, 1) := by decide +kernel
theorem dX2_sail_59 : decode cX2_sail 59 = .ok (.getfield 137, 3) := by decide +kernel
theorem dX2_sail_62 : decode cX2_sail 62 = .ok (.iload_n 3, 1) := by decide +kernel
theorem dX2_sail_63 : decode cX2_sail 63 = .ok (.aload_n 0, 1) := by decide +kernel
theorem dX2_sail_64 : decode cX2_sail 64 = .ok (.getfield 22, 3) := by decide +kernel
theorem dX2_sail_67 : decode cX2_sail 67 = .ok (.iload_n 3, 1) := by decide +kernel
theorem dX2_sail_68 : decode cX2_sail 68 = .ok (.iaload, 1) := by decide +kernel
theorem dX2_sail_69 : decode cX2_sail 69 = .ok (.iload_n 2, 1) := by decide +kernel
theorem dX2_sail_70 : decode cX2_sail 70 = .ok (.if_icmp .ne 7, 3) := by decide +kernel
theorem dX2_sail_73 : decode cX2_sail 73 = .ok (.iconst 0, 1) := by decide +kernel
theorem dX2_sail_74 : decode cX2_sail 74 = .ok (.goto 11, 3) := by decide +kernel
theorem dX2_sail_77 : decode cX2_sail 77 = .ok (.aload_n 1, 1) := by decide +kernel
theorem dX2_sail_78 : decode cX2_sail 78 = .ok (.getfield 137, 3) := by decide +kernel
theorem dX2_sail_81 : decode cX2_sail 81 = .ok (.iload_n 3, 1) := by decide +kernel
theorem dX2_sail_82 : decode cX2_sail 82 = .ok (.iaload, 1) := by decide +kernel
theorem dX2_sail_83 : decode cX2_sail 83 = .ok (.iconst 1, 1) := by decide +kernel
theorem dX2_sail_84 : decode cX2_sail 84 = .ok (.iadd, 1) := by decide +kernel
theorem dX2_sail_85 : decode cX2_sail 85 = .ok (.iastore, 1) := by decide +kernel
theorem dX2_sail_86 : decode cX2_sail 86 = .ok (.aload_n 1, 1) := by decide +kernel
theorem dX2_sail_87 : decode cX2_sail 87 = .ok (.getfield 137, 3) := by decide +kernel
theorem dX2_sail_90 : decode cX2_sail 90 = .ok (.iload_n 3, 1) := by decide +kernel
theorem dX2_sail_91 : decode cX2_sail 91 = .ok (.iaload, 1) := by decide +kernel
theorem dX2_sail_92 : decode cX2_sail 92 = .ok (.aload_n 0, 1) := by decide +kernel
theorem dX2_sail_93 : decode cX2_sail 93 = .ok (.getfield 43, 3) := by decide +kernel
theorem dX2_sail_96 : decode cX2_sail 96 = .ok (.getfield 64, 3) := by decide +kernel
theorem dX2_sail_99 : decode cX2_sail 99 = .ok (.iload_n 3, 1) := by decide +kernel
theorem dX2_sail_100 : decode cX2_sail 100 = .ok (.aaload, 1) := by decide +kernel
theorem dX2_sail_101 : decode cX2_sail 101 = .ok (.getfield 220, 3) := by decide +kernel
theorem dX2_sail_104 : decode cX2_sail 104 = .ok (.if_icmp .lt 23, 3) := by decide +kernel
theorem dX2_sail_107 : decode cX2_sail 107 = .ok (.aload_n 0, 1) := by decide +kernel
theorem dX2_sail_108 : decode cX2_sail 108 = .ok (.getfield 9, 3) := by decide +kernel
theorem dX2_sail_111 : decode cX2_sail 111 = .ok (.iconst 5, 1) := by decide +kernel
theorem dX2_sail_112 : decode cX2_sail 112 = .ok (.if_icmp .eq 15, 3) := by decide +kernel
theorem dX2_sail_115 : decode cX2_sail 115 = .ok (.aload_n 1, 1) := by decide +kernel
theorem dX2_sail_116 : decode cX2_sail 116 = .ok (.dup, 1) := by decide +kernel
theorem dX2_sail_117 : decode cX2_sail 117 = .ok (.getfield 53, 3) := by decide +kernel
theorem dX2_sail_120 : decode cX2_sail 120 = .ok (.iconst 1, 1) := by decide +kernel
theorem dX2_sail_121 : decode cX2_sail 121 = .ok (.iload_n 3, 1) := by decide +kernel
theorem dX2_sail_122 : decode cX2_sail 122 = .ok (.ishl, 1) := by decide +kernel
theorem dX2_sail_123 : decode cX2_sail 123 = .ok (.ior, 1) := by decide +kernel
theorem dX2_sail_124 : decode cX2_sail 124 = .ok (.putfield 53, 3) := by decide +kernel
theorem dX2_sail_127 : decode cX2_sail 127 = .ok (.iinc 3 1, 3) := by decide +kernel
theorem dX2_sail_130 : decode cX2_sail 130 = .ok (.goto (-93), 3) := by decide +kernel
theorem dX2_sail_133 : decode cX2_sail 133 = .ok (.aload_n 1, 1) := by decide +kernel
theorem dX2_sail_134 : decode cX2_sail 134 = .ok (.dup, 1) := by decide +kernel
theorem dX2_sail_135 : decode cX2_sail 135 = .ok (.getfield 73, 3) := by decide +kernel
theorem dX2_sail_138 : decode cX2_sail 138 = .ok (.iconst 1, 1) := by decide +kernel
theorem dX2_sail_139 : decode cX2_sail 139 = .ok (.iadd, 1) := by decide +kernel
theorem dX2_sail_140 : decode cX2_sail 140 = .ok (.putfield 73, 3) := by decide +kernel
theorem dX2_sail_143 : decode cX2_sail 143 = .ok (.aload_n 1, 1) := by decide +kernel
theorem dX2_sail_144 : decode cX2_sail 144 = .ok (.getfield 223, 3) := by decide +kernel
theorem dX2_sail_147 : decode cX2_sail 147 = .ok (.iconst (-1), 1) := by decide +kernel
theorem dX2_sail_148 : decode cX2_sail 148 = .ok (.if_icmp .ne 28, 3) := by decide +kernel
theorem dX2_sail_151 : decode cX2_sail 151 = .ok (.aload_n 1, 1) := by decide +kernel
theorem dX2_sail_152 : decode cX2_sail 152 = .ok (.getfield 157, 3) := by decide +kernel
theorem dX2_sail_155 : decode cX2_sail 155 = .ok (.aload_n 0, 1) := by decide +kernel
theorem dX2_sail_156 : decode cX2_sail 156 = .ok (.getfield 43, 3) := by decide +kernel
theorem dX2_sail_159 : decode cX2_sail 159 = .ok (.getfield 124, 3) := by decide +kernel
theorem dX2_sail_162 : decode cX2_sail 162 = .ok (.getfield 226, 3) := by decide +kernel
theorem dX2_sail_165 : decode cX2_sail 165 = .ok (.if_icmp .ne 11, 3) := by decide +kernel
theorem dX2_sail_168 : decode cX2_sail 168 = .ok (.aload_n 1, 1) := by decide +kernel
theorem dX2_sail_169 : decode cX2_sail 169 = .ok (.aload_n 1, 1) := by decide +kernel
theorem dX2_sail_170 : decode cX2_sail 170 = .ok (.getfield 73, 3) := by decide +kernel
theorem dX2_sail_173 : decode cX2_sail 173 = .ok (.putfield 223, 3) := by decide +kernel
theorem dX2_sail_176 : decode cX2_sail 176 = .ok (.return_, 1) := by decide +kernel
noncomputable def b_X2_sail_0 (rec : Rk) (x1 x2 : Int) (h : Hp) : Option (Int × Hp) :=
  bd (f_X2_comesTo x1 x2 h) fun v1 h2 =>
  lt (sI h2 10 x1 1 v1) fun h3 =>
  if (gI h3 2 0 1) = 4 then (
    rec 1 [x1, x2, 0, gI h3 10 x1 2, x1] h3
  ) else (
    rec 1 [x1, x2, gI h3 2 0 7, gI h3 10 x1 2, x1] h3
  )
noncomputable def b_X2_sail_1 (rec : Rk) (x1 x2 y0 y1 y2 : Int) (h : Hp) : Option (Int × Hp) :=
  ck (-2147483648 ≤ y1 - y0 ∧ y1 - y0 < 2147483648) <|
  lt (sI h 10 y2 2 (y1 - y0)) fun h1 =>
  rec 2 [x1, x2, 0] h1
noncomputable def b_X2_sail_2 (rec : Rk) (x1 x2 x3 : Int) (h : Hp) : Option (Int × Hp) :=
  rf (gR h 2 0 0) 0 fun j1 =>
  bd (f_X0_size j1 h) fun v2 h3 =>
  if v2 ≤ x3 then (
    ck (-2147483648 ≤ (gI h3 10 x1 0) + 1 ∧ (gI h3 10 x1 0) + 1 < 2147483648) <|
    lt (sI h3 10 x1 0 ((gI h3 10 x1 0) + 1)) fun h4 =>
    if (gI h4 10 x1 7) = (-1) then (
      rf (gR h4 2 0 0) 0 fun j5 =>
      if (gI h4 10 x1 1) = (gI h4 9 j5 5) then (
        lt (sI h4 10 x1 7 (gI h4 10 x1 0)) fun h6 =>
        some (0, h6)
      ) else (
        some (0, h4)
      )
    ) else (
      some (0, h4)
    )
  ) else (
    ck (0 ≤ x3 ∧ x3 < 9) <|
    if (gI h3 30 0 x3) = (-1) then (
      rec 4 [x1, x2, x3] h3
    ) else (
      ck (0 ≤ x3 ∧ x3 < 9) <|
      if (gI h3 30 0 x3) = x2 then (
        rec 3 [x1, x2, x3, 0, x3, x1] h3
      ) else (
        ck (0 ≤ x3 ∧ x3 < 9) <|
        ck (-2147483648 ≤ (gI h3 57 x1 x3) + 1 ∧ (gI h3 57 x1 x3) + 1 < 2147483648) <|
        rec 3 [x1, x2, x3, (gI h3 57 x1 x3) + 1, x3, x1] h3
      )
    )
  )
noncomputable def b_X2_sail_3 (rec : Rk) (x1 x2 x3 y0 y1 y2 : Int) (h : Hp) : Option (Int × Hp) :=
  ck (0 ≤ y1 ∧ y1 < 9) <|
  lt (sI h 57 y2 y1 y0) fun h1 =>
  ck (0 ≤ x3 ∧ x3 < 9) <|
  rf (gR h1 2 0 0) 0 fun j2 =>
  ck (0 ≤ x3 ∧ x3 < 9) <|
  rf (gR h1 20 j2 x3) 4 fun j3 =>
  if (gI h1 57 x1 x3) < (gI h1 4 j3 7) then (
    rec 4 [x1, x2, x3] h1
  ) else (
    if (gI h1 2 0 1) = 5 then (
      rec 4 [x1, x2, x3] h1
    ) else (
      lt (sI h1 10 x1 6 (bor (gI h1 10 x1 6) (bshl 1 x3))) fun h4 =>
      rec 4 [x1, x2, x3] h4
    )
  )
noncomputable def b_X2_sail_4 (rec : Rk) (x1 x2 x3 : Int) (h : Hp) : Option (Int × Hp) :=
  ck (-2147483648 ≤ x3 + 1 ∧ x3 + 1 < 2147483648) <|
  rec 2 [x1, x2, x3 + 1] h
noncomputable def g_X2_sail (n : Nat) : Rk := Nat.rec (motive := fun _ => Rk) (fun _ _ _ => none) (fun _ rec k l h => if k = 0 then b_X2_sail_0 rec (l.getD 0 0) (l.getD 1 0) h else if k = 1 then b_X2_sail_1 rec (l.getD 0 0) (l.getD 1 0) (l.getD 2 0) (l.getD 3 0) (l.getD 4 0) h else if k = 2 then b_X2_sail_2 rec (l.getD 0 0) (l.getD 1 0) (l.getD 2 0) h else if k = 3 then b_X2_sail_3 rec (l.getD 0 0) (l.getD 1 0) (l.getD 2 0) (l.getD 3 0) (l.getD 4 0) (l.getD 5 0) h else if k = 4 then b_X2_sail_4 rec (l.getD 0 0) (l.getD 1 0) (l.getD 2 0) h else none) n
noncomputable def f_X2_sail (x1 x2 : Int) (h : Hp) : Option (Int × Hp) := g_X2_sail FU 0 [x1, x2] h
set_option maxHeartbeats 4000000 in
set_option maxRecDepth 100000 in
theorem t_X2_sail_0 (E : xE) (d : Nat) (rec : Rk) (r : Int × Hp) (hr_31 : ∀ (x1 x2 y0 y1 y2 : Int) (h : Hp), Lay h → rec 1 [x1, x2, y0, y1, y2] h = some r → X E mX2_sail (d + 4) (0, 0) (0, 0) 31 [some (xr 2 0), some (xr 10 x1), some (xi x2), none] [xi y0, xi y1, xr 10 y2] h (PoV r)) (x1 x2 : Int) (h : Hp) (hL : Lay h) (hF : b_X2_sail_0 rec x1 x2 h = some r) : X E mX2_sail (d + 4) (0, 0) (0, 0) 0 [some (xr 2 0), some (xr 10 x1), some (xi x2), none] [] h (PoV r) := by
  unfold b_X2_sail_0 at hF
  refine x_aload_n (i := 1) (b := 1) dX2_sail_0 rfl rfl rfl ?_
  refine x_aload_n (i := 0) (b := 2) dX2_sail_1 rfl rfl rfl ?_
  refine x_aload_n (i := 1) (b := 3) dX2_sail_2 rfl rfl rfl ?_
  refine x_iload_n (i := 2) (b := 4) dX2_sail_3 rfl rfl rfl ?_
  obtain ⟨v1, h2, hq, hF⟩ := bd_e hF
  refine x_callV (as := [xr 10 x1, xi x2]) (rest := [xr 10 x1]) (b := 7) (c_X2_comesTo d x1 x2 h _ hL hq) dX2_sail_4 cw_X2_217 ⟨_, _, rfl, Nat.le_of_ble_eq_true rfl⟩ rfl rfl (Nat.le_of_ble_eq_true rfl) ⟨Nat.le_refl _, Nat.le_refl _⟩ rfl (fun rv hh hp _ => ?_)
  obtain ⟨rfl, rfl, hL⟩ := hp
  refine x_putI (b := 10) fk_X2_157 dX2_sail_7 rfl rfl 1 rfl ?_
  obtain ⟨h3, e_h3, hF⟩ := lt_e hF
  refine x_hp (h2 := h3) e_h3 ?_
  replace hL : Lay h3 := by rw [← e_h3]; exact hL
  refine x_aload_n (i := 1) (b := 11) dX2_sail_10 rfl rfl rfl ?_
  refine x_dup (b := 12) dX2_sail_11 rfl rfl ?_
  refine x_getI (v := gI h3 10 x1 2) (b := 15) fk_X2_99 dX2_sail_12 (by decide) rfl rfl ?_
  refine x_aload_n (i := 0) (b := 16) dX2_sail_15 rfl rfl rfl ?_
  refine x_getI (v := gI h3 2 0 1) (b := 19) fk_X2_9 dX2_sail_16 (by decide) rfl rfl ?_
  refine x_iconst (n := 4) (b := 20) dX2_sail_19 (by decide) rfl ?_
  refine x_icmp_ne (tgt := 27) (b := 23) dX2_sail_20 (by decide) rfl (fun hc => ?_) (fun hc => ?_)
  · replace hF := br_F hc hF
    refine x_aload_n (i := 0) (b := 28) dX2_sail_27 rfl rfl rfl ?_
    refine x_getI (v := gI h3 2 0 7) (b := 31) fk_X2_31 dX2_sail_28 (by decide) rfl rfl ?_
    exact x_dp (ls2 := [some (xr 2 0), some (xr 10 x1), some (xi x2), none]) ⟨rfl, rfl, rfl, trivial⟩ (hr_31 x1 x2 (gI h3 2 0 7) (gI h3 10 x1 2) x1 h3 hL hF)
  · replace hF := br_T hc hF
    refine x_iconst (n := 0) (b := 24) dX2_sail_23 (by decide) rfl ?_
    refine x_goto (tgt := 31) dX2_sail_24 (by decide) ?_
    exact x_dp (ls2 := [some (xr 2 0), some (xr 10 x1), some (xi x2), none]) ⟨rfl, rfl, rfl, trivial⟩ (hr_31 x1 x2 0 (gI h3 10 x1 2) x1 h3 hL hF)
set_option maxHeartbeats 4000000 in
set_option maxRecDepth 100000 in
theorem t_X2_sail_1 (E : xE) (d : Nat) (rec : Rk) (r : Int × Hp) (hr_37 : ∀ (x1 x2 x3 : Int) (h : Hp), Lay h → rec 2 [x1, x2, x3] h = some r → X E mX2_sail (d + 4) (0, 0) (0, 0) 37 [some (xr 2 0), some (xr 10 x1), some (xi x2), some (xi x3)] [] h (PoV r)) (x1 x2 y0 y1 y2 : Int) (h : Hp) (hL : Lay h) (hF : b_X2_sail_1 rec x1 x2 y0 y1 y2 h = some r) : X E mX2_sail (d + 4) (0, 0) (0, 0) 31 [some (xr 2 0), some (xr 10 x1), some (xi x2), none] [xi y0, xi y1, xr 10 y2] h (PoV r) := by
  unfold b_X2_sail_1 at hF
  obtain ⟨hs, hF⟩ := ck_e hF
  refine x_isub (b := 32) dX2_sail_31 hs rfl ?_
  refine x_putI (b := 35) fk_X2_99 dX2_sail_32 rfl rfl 2 rfl ?_
  obtain ⟨h1, e_h1, hF⟩ := lt_e hF
  refine x_hp (h2 := h1) e_h1 ?_
  replace hL : Lay h1 := by rw [← e_h1]; exact hL
  refine x_iconst (n := 0) (b := 36) dX2_sail_35 (by decide) rfl ?_
  refine x_istore_n (i := 3) (b := 37) (ls2 := [some (xr 2 0), some (xr 10 x1), some (xi x2), some (xi 0)]) dX2_sail_36 rfl (Nat.le_of_ble_eq_true rfl) rfl rfl ?_
  exact x_dp (ls2 := [some (xr 2 0), some (xr 10 x1), some (xi x2), some (xi 0)]) ⟨rfl, rfl, rfl, rfl, trivial⟩ (hr_37 x1 x2 0 h1 hL hF)
set_option maxHeartbeats 4000000 in
set_option maxRecDepth 100000 in
theorem t_X2_sail_2 (E : xE) (d : Nat) (rec : Rk) (r : Int × Hp) (hr_85 : ∀ (x1 x2 x3 y0 y1 y2 : Int) (h : Hp), Lay h → rec 3 [x1, x2, x3, y0, y1, y2] h = some r → X E mX2_sail (d + 4) (0, 0) (0, 0) 85 [some (xr 2 0), some (xr 10 x1), some (xi x2), some (xi x3)] [xi y0, xi y1, xr 57 y2] h (PoV r)) (hr_127 : ∀ (x1 x2 x3 : Int) (h : Hp), Lay h → rec 4 [x1, x2, x3] h = some r → X E mX2_sail (d + 4) (0, 0) (0, 0) 127 [some (xr 2 0), some (xr 10 x1), some (xi x2), some (xi x3)] [] h (PoV r)) (x1 x2 x3 : Int) (h : Hp) (hL : Lay h) (hF : b_X2_sail_2 rec x1 x2 x3 h = some r) : X E mX2_sail (d + 4) (0, 0) (0, 0) 37 [some (xr 2 0), some (xr 10 x1), some (xi x2), some (xi x3)] [] h (PoV r) := by
  unfold b_X2_sail_2 at hF
  refine x_iload_n (i := 3) (b := 38) dX2_sail_37 rfl rfl rfl ?_
  refine x_aload_n (i := 0) (b := 39) dX2_sail_38 rfl rfl rfl ?_
  obtain ⟨j1, e_j1, hF⟩ := rf_e hF
  refine x_getR (v := some (0, j1)) (b := 42) fk_X2_43 dX2_sail_39 rfl e_j1 rfl ?_
  obtain ⟨v2, h3, hq, hF⟩ := bd_e hF
  refine x_callV (as := []) (rest := [xi x3]) (b := 45) (c_X0_size (d + 2) j1 h _ hL hq) dX2_sail_42 cw_X2_79 ⟨_, _, rfl, Nat.le_of_ble_eq_true rfl⟩ rfl rfl (Nat.le_of_ble_eq_true rfl) ⟨Nat.le_refl _, Nat.le_refl _⟩ rfl (fun rv hh hp _ => ?_)
  obtain ⟨rfl, rfl, hL⟩ := hp
  refine x_icmp_ge (tgt := 133) (b := 48) dX2_sail_45 (by decide) rfl (fun hc => ?_) (fun hc => ?_)
  · replace hF := br_T hc hF
    refine x_aload_n (i := 1) (b := 134) dX2_sail_133 rfl rfl rfl ?_
    refine x_dup (b := 135) dX2_sail_134 rfl rfl ?_
    refine x_getI (v := gI h3 10 x1 0) (b := 138) fk_X2_73 dX2_sail_135 (by decide) rfl rfl ?_
    refine x_iconst (n := 1) (b := 139) dX2_sail_138 (by decide) rfl ?_
    obtain ⟨hs, hF⟩ := ck_e hF
    refine x_iadd (b := 140) dX2_sail_139 hs rfl ?_
    refine x_putI (b := 143) fk_X2_73 dX2_sail_140 rfl rfl 0 rfl ?_
    obtain ⟨h4, e_h4, hF⟩ := lt_e hF
    refine x_hp (h2 := h4) e_h4 ?_
    replace hL : Lay h4 := by rw [← e_h4]; exact hL
    refine x_aload_n (i := 1) (b := 144) dX2_sail_143 rfl rfl rfl ?_
    refine x_getI (v := gI h4 10 x1 7) (b := 147) fk_X2_223 dX2_sail_144 (by decide) rfl rfl ?_
    refine x_iconst (n := (-1)) (b := 148) dX2_sail_147 (by decide) rfl ?_
    refine x_icmp_ne (tgt := 176) (b := 151) dX2_sail_148 (by decide) rfl (fun hc => ?_) (fun hc => ?_)
    · replace hF := br_F hc hF
      refine x_return dX2_sail_176 rfl ⟨Nat.le_refl _, Nat.le_refl _⟩ ?_
      cases hF
      exact ⟨rfl, rfl, hL⟩
    · replace hF := br_T hc hF
      refine x_aload_n (i := 1) (b := 152) dX2_sail_151 rfl rfl rfl ?_
      refine x_getI (v := gI h4 10 x1 1) (b := 155) fk_X2_157 dX2_sail_152 (by decide) rfl rfl ?_
      refine x_aload_n (i := 0) (b := 156) dX2_sail_155 rfl rfl rfl ?_
      obtain ⟨j5, e_j5, hF⟩ := rf_e hF
      refine x_getR (v := some (0, j5)) (b := 159) fk_X2_43 dX2_sail_156 rfl e_j5 rfl ?_
      refine x_getL (j := j5) (t := (9, 0, true)) (b := 162) fk_X2_124 dX2_sail_159 rfl hL rfl rfl rfl ?_
      refine x_getI (v := gI h4 9 j5 5) (b := 165) fk_X2_226 dX2_sail_162 (by decide) rfl rfl ?_
      refine x_icmp_ne (tgt := 176) (b := 168) dX2_sail_165 (by decide) rfl (fun hc => ?_) (fun hc => ?_)
      · replace hF := br_F hc hF
        refine x_return dX2_sail_176 rfl ⟨Nat.le_refl _, Nat.le_refl _⟩ ?_
        cases hF
        exact ⟨rfl, rfl, hL⟩
      · replace hF := br_T hc hF
        refine x_aload_n (i := 1) (b := 169) dX2_sail_168 rfl rfl rfl ?_
        refine x_aload_n (i := 1) (b := 170) dX2_sail_169 rfl rfl rfl ?_
        refine x_getI (v := gI h4 10 x1 0) (b := 173) fk_X2_73 dX2_sail_170 (by decide) rfl rfl ?_
        refine x_putI (b := 176) fk_X2_223 dX2_sail_173 rfl rfl 7 rfl ?_
        obtain ⟨h6, e_h6, hF⟩ := lt_e hF
        refine x_hp (h2 := h6) e_h6 ?_
        replace hL : Lay h6 := by rw [← e_h6]; exact hL
        refine x_return dX2_sail_176 rfl ⟨Nat.le_refl _, Nat.le_refl _⟩ ?_
        cases hF
        exact ⟨rfl, rfl, hL⟩
  · replace hF := br_F hc hF
    refine x_aload_n (i := 0) (b := 49) dX2_sail_48 rfl rfl rfl ?_
    refine x_getL (j := 0) (t := (30, 0, true)) (b := 52) fk_X2_22 dX2_sail_49 rfl hL rfl rfl rfl ?_
    refine x_iload_n (i := 3) (b := 53) dX2_sail_52 rfl rfl rfl ?_
    obtain ⟨hs, hF⟩ := ck_e hF
    refine x_iald (v := gI h3 30 0 x3) (b := 54) ak_30 dX2_sail_53 hs rfl rfl ?_
    refine x_iconst (n := (-1)) (b := 55) dX2_sail_54 (by decide) rfl ?_
    refine x_icmp_eq (tgt := 127) (b := 58) dX2_sail_55 (by decide) rfl (fun hc => ?_) (fun hc => ?_)
    · replace hF := br_T hc hF
      exact x_dp (ls2 := [some (xr 2 0), some (xr 10 x1), some (xi x2), some (xi x3)]) ⟨rfl, rfl, rfl, rfl, trivial⟩ (hr_127 x1 x2 x3 h3 hL hF)
    · replace hF := br_F hc hF
      refine x_aload_n (i := 1) (b := 59) dX2_sail_58 rfl rfl rfl ?_
      refine x_getL (j := x1) (t := (57, 0, true)) (b := 62) fk_X2_137 dX2_sail_59 rfl hL rfl rfl rfl ?_
      refine x_iload_n (i := 3) (b := 63) dX2_sail_62 rfl rfl rfl ?_
      refine x_aload_n (i := 0) (b := 64) dX2_sail_63 rfl rfl rfl ?_
      refine x_getL (j := 0) (t := (30, 0, true)) (b := 67) fk_X2_22 dX2_sail_64 rfl hL rfl rfl rfl ?_
      refine x_iload_n (i := 3) (b := 68) dX2_sail_67 rfl rfl rfl ?_
      obtain ⟨hs, hF⟩ := ck_e hF
      refine x_iald (v := gI h3 30 0 x3) (b := 69) ak_30 dX2_sail_68 hs rfl rfl ?_
      refine x_iload_n (i := 2) (b := 70) dX2_sail_69 rfl rfl rfl ?_
      refine x_icmp_ne (tgt := 77) (b := 73) dX2_sail_70 (by decide) rfl (fun hc => ?_) (fun hc => ?_)
      · replace hF := br_F hc hF
        refine x_aload_n (i := 1) (b := 78) dX2_sail_77 rfl rfl rfl ?_
        refine x_getL (j := x1) (t := (57, 0, true)) (b := 81) fk_X2_137 dX2_sail_78 rfl hL rfl rfl rfl ?_
        refine x_iload_n (i := 3) (b := 82) dX2_sail_81 rfl rfl rfl ?_
        obtain ⟨hs, hF⟩ := ck_e hF
        refine x_iald (v := gI h3 57 x1 x3) (b := 83) ak_57 dX2_sail_82 hs rfl rfl ?_
        refine x_iconst (n := 1) (b := 84) dX2_sail_83 (by decide) rfl ?_
        obtain ⟨hs, hF⟩ := ck_e hF
        refine x_iadd (b := 85) dX2_sail_84 hs rfl ?_
        exact x_dp (ls2 := [some (xr 2 0), some (xr 10 x1), some (xi x2), some (xi x3)]) ⟨rfl, rfl, rfl, rfl, trivial⟩ (hr_85 x1 x2 x3 ((gI h3 57 x1 x3) + 1) x3 x1 h3 hL hF)
      · replace hF := br_T hc hF
        refine x_iconst (n := 0) (b := 74) dX2_sail_73 (by decide) rfl ?_
        refine x_goto (tgt := 85) dX2_sail_74 (by decide) ?_
        exact x_dp (ls2 := [some (xr 2 0), some (xr 10 x1), some (xi x2), some (xi x3)]) ⟨rfl, rfl, rfl, rfl, trivial⟩ (hr_85 x1 x2 x3 0 x3 x1 h3 hL hF)
set_option maxHeartbeats 4000000 in
set_option maxRecDepth 100000 in
theorem t_X2_sail_3 (E : xE) (d : Nat) (rec : Rk) (r : Int × Hp) (hr_127 : ∀ (x1 x2 x3 : Int) (h : Hp), Lay h → rec 4 [x1, x2, x3] h = some r → X E mX2_sail (d + 4) (0, 0) (0, 0) 127 [some (xr 2 0), some (xr 10 x1), some (xi x2), some (xi x3)] [] h (PoV r)) (x1 x2 x3 y0 y1 y2 : Int) (h : Hp) (hL : Lay h) (hF : b_X2_sail_3 rec x1 x2 x3 y0 y1 y2 h = some r) : X E mX2_sail (d + 4) (0, 0) (0, 0) 85 [some (xr 2 0), some (xr 10 x1), some (xi x2), some (xi x3)] [xi y0, xi y1, xr 57 y2] h (PoV r) := by
  unfold b_X2_sail_3 at hF
  obtain ⟨hs, hF⟩ := ck_e hF
  have hs1 := hs
  refine x_iast (b := 86) ak_57 dX2_sail_85 hs1 rfl ?_
  obtain ⟨h1, e_h1, hF⟩ := lt_e hF
  refine x_hp (h2 := h1) e_h1 ?_
  replace hL : Lay h1 := by rw [← e_h1]; exact hL
  refine x_aload_n (i := 1) (b := 87) dX2_sail_86 rfl rfl rfl ?_
  refine x_getL (j := x1) (t := (57, 0, true)) (b := 90) fk_X2_137 dX2_sail_87 rfl hL rfl rfl rfl ?_
  refine x_iload_n (i := 3) (b := 91) dX2_sail_90 rfl rfl rfl ?_
  obtain ⟨hs, hF⟩ := ck_e hF
  refine x_iald (v := gI h1 57 x1 x3) (b := 92) ak_57 dX2_sail_91 hs rfl rfl ?_
  refine x_aload_n (i := 0) (b := 93) dX2_sail_92 rfl rfl rfl ?_
  obtain ⟨j2, e_j2, hF⟩ := rf_e hF
  refine x_getR (v := some (0, j2)) (b := 96) fk_X2_43 dX2_sail_93 rfl e_j2 rfl ?_
  refine x_getL (j := j2) (t := (20, 0, true)) (b := 99) fk_X2_64 dX2_sail_96 rfl hL rfl rfl rfl ?_
  refine x_iload_n (i := 3) (b := 100) dX2_sail_99 rfl rfl rfl ?_
  obtain ⟨hs, hF⟩ := ck_e hF
  obtain ⟨j3, e_j3, hF⟩ := rf_e hF
  refine x_aaldM (v := some (4, j3)) (b := 101) ak_20 dX2_sail_100 hs e_j3 rfl ?_
  refine x_getI (v := gI h1 4 j3 7) (b := 104) fk_X2_220 dX2_sail_101 (by decide) rfl rfl ?_
  refine x_icmp_lt (tgt := 127) (b := 107) dX2_sail_104 (by decide) rfl (fun hc => ?_) (fun hc => ?_)
  · replace hF := br_T hc hF
    exact x_dp (ls2 := [some (xr 2 0), some (xr 10 x1), some (xi x2), some (xi x3)]) ⟨rfl, rfl, rfl, rfl, trivial⟩ (hr_127 x1 x2 x3 h1 hL hF)
  · replace hF := br_F hc hF
    refine x_aload_n (i := 0) (b := 108) dX2_sail_107 rfl rfl rfl ?_
    refine x_getI (v := gI h1 2 0 1) (b := 111) fk_X2_9 dX2_sail_108 (by decide) rfl rfl ?_
    refine x_iconst (n := 5) (b := 112) dX2_sail_111 (by decide) rfl ?_
    refine x_icmp_eq (tgt := 127) (b := 115) dX2_sail_112 (by decide) rfl (fun hc => ?_) (fun hc => ?_)
    · replace hF := br_T hc hF
      exact x_dp (ls2 := [some (xr 2 0), some (xr 10 x1), some (xi x2), some (xi x3)]) ⟨rfl, rfl, rfl, rfl, trivial⟩ (hr_127 x1 x2 x3 h1 hL hF)
    · replace hF := br_F hc hF
      refine x_aload_n (i := 1) (b := 116) dX2_sail_115 rfl rfl rfl ?_
      refine x_dup (b := 117) dX2_sail_116 rfl rfl ?_
      refine x_getI (v := gI h1 10 x1 6) (b := 120) fk_X2_53 dX2_sail_117 (by decide) rfl rfl ?_
      refine x_iconst (n := 1) (b := 121) dX2_sail_120 (by decide) rfl ?_
      refine x_iload_n (i := 3) (b := 122) dX2_sail_121 rfl rfl rfl ?_
      refine x_ishl (b := 123) dX2_sail_122 rfl ?_
      refine x_ior (b := 124) dX2_sail_123 rfl ?_
      refine x_putI (b := 127) fk_X2_53 dX2_sail_124 rfl rfl 6 rfl ?_
      obtain ⟨h4, e_h4, hF⟩ := lt_e hF
      refine x_hp (h2 := h4) e_h4 ?_
      replace hL : Lay h4 := by rw [← e_h4]; exact hL
      exact x_dp (ls2 := [some (xr 2 0), some (xr 10 x1), some (xi x2), some (xi x3)]) ⟨rfl, rfl, rfl, rfl, trivial⟩ (hr_127 x1 x2 x3 h4 hL hF)
set_option maxHeartbeats 4000000 in
set_option maxRecDepth 100000 in
theorem t_X2_sail_4 (E : xE) (d : Nat) (rec : Rk) (r : Int × Hp) (hr_37 : ∀ (x1 x2 x3 : Int) (h : Hp), Lay h → rec 2 [x1, x2, x3] h = some r → X E mX2_sail (d + 4) (0, 0) (0, 0) 37 [some (xr 2 0), some (xr 10 x1), some (xi x2), some (xi x3)] [] h (PoV r)) (x1 x2 x3 : Int) (h : Hp) (hL : Lay h) (hF : b_X2_sail_4 rec x1 x2 x3 h = some r) : X E mX2_sail (d + 4) (0, 0) (0, 0) 127 [some (xr 2 0), some (xr 10 x1), some (xi x2), some (xi x3)] [] h (PoV r) := by
  unfold b_X2_sail_4 at hF
  obtain ⟨hs, hF⟩ := ck_e hF
  refine x_iinc (i := 3) (b := 130) (ls2 := [some (xr 2 0), some (xr 10 x1), some (xi x2), some (xi (x3 + 1))]) dX2_sail_127 rfl (Nat.le_of_ble_eq_true rfl) hs rfl rfl ?_
  refine x_goto (tgt := 37) dX2_sail_130 (by decide) ?_
  exact x_dp (ls2 := [some (xr 2 0), some (xr 10 x1), some (xi x2), some (xi (x3 + 1))]) ⟨rfl, rfl, rfl, rfl, trivial⟩ (hr_37 x1 x2 (x3 + 1) h hL hF)
set_option maxHeartbeats 4000000 in
set_option maxRecDepth 100000 in
theorem u_X2_sail (E : xE) (d : Nat) (r : Int × Hp) : ∀ n : Nat, (∀ (x1 x2 : Int) (h : Hp), Lay h → g_X2_sail n 0 [x1, x2] h = some r → X E mX2_sail (d + 4) (0, 0) (0, 0) 0 [some (xr 2 0), some (xr 10 x1), some (xi x2), none] [] h (PoV r)) ∧ (∀ (x1 x2 y0 y1 y2 : Int) (h : Hp), Lay h → g_X2_sail n 1 [x1, x2, y0, y1, y2] h = some r → X E mX2_sail (d + 4) (0, 0) (0, 0) 31 [some (xr 2 0), some (xr 10 x1), some (xi x2), none] [xi y0, xi y1, xr 10 y2] h (PoV r)) ∧ (∀ (x1 x2 x3 : Int) (h : Hp), Lay h → g_X2_sail n 2 [x1, x2, x3] h = some r → X E mX2_sail (d + 4) (0, 0) (0, 0) 37 [some (xr 2 0), some (xr 10 x1), some (xi x2), some (xi x3)] [] h (PoV r)) ∧ (∀ (x1 x2 x3 y0 y1 y2 : Int) (h : Hp), Lay h → g_X2_sail n 3 [x1, x2, x3, y0, y1, y2] h = some r → X E mX2_sail (d + 4) (0, 0) (0, 0) 85 [some (xr 2 0), some (xr 10 x1), some (xi x2), some (xi x3)] [xi y0, xi y1, xr 57 y2] h (PoV r)) ∧ (∀ (x1 x2 x3 : Int) (h : Hp), Lay h → g_X2_sail n 4 [x1, x2, x3] h = some r → X E mX2_sail (d + 4) (0, 0) (0, 0) 127 [some (xr 2 0), some (xr 10 x1), some (xi x2), some (xi x3)] [] h (PoV r)) := by
  intro n
  induction n with
  | zero => exact ⟨fun _ _ _ _ hF => no_e (r := r) hF, fun _ _ _ _ _ _ _ hF => no_e (r := r) hF, fun _ _ _ _ _ hF => no_e (r := r) hF, fun _ _ _ _ _ _ _ _ hF => no_e (r := r) hF, fun _ _ _ _ _ hF => no_e (r := r) hF⟩
  | succ n ih => exact ⟨fun x1 x2 h hL hF => t_X2_sail_0 E d (g_X2_sail n) r ih.2.1 x1 x2 h hL hF, fun x1 x2 y0 y1 y2 h hL hF => t_X2_sail_1 E d (g_X2_sail n) r ih.2.2.1 x1 x2 y0 y1 y2 h hL hF, fun x1 x2 x3 h hL hF => t_X2_sail_2 E d (g_X2_sail n) r ih.2.2.2.1 ih.2.2.2.2 x1 x2 x3 h hL hF, fun x1 x2 x3 y0 y1 y2 h hL hF => t_X2_sail_3 E d (g_X2_sail n) r ih.2.2.2.2 x1 x2 x3 y0 y1 y2 h hL hF, fun x1 x2 x3 h hL hF => t_X2_sail_4 E d (g_X2_sail n) r ih.2.2.1 x1 x2 x3 h hL hF⟩
theorem c_X2_sail (d : Nat) (x1 x2 : Int) (h : Hp) (r : Int × Hp) (hL : Lay h) (hF : f_X2_sail x1 x2 h = some r) : Sp mX2_sail (d + 4) (0, 0) [xr 2 0, xr 10 x1, xi x2] h (PoV r) :=
  sp_of (by decide) rfl (Nat.le_of_ble_eq_true rfl) (ls := [some (xr 2 0), some (xr 10 x1), some (xi x2), none]) rfl (fun E _ => (u_X2_sail E d r FU).1 x1 x2 h hL hF)
theorem dX2_serve_0 : decode cX2_serve 0 = .ok (.aload_n 1, 1) := by decide +kernel
theorem dX2_serve_1 : decode cX2_serve 1 = .ok (.getfield 99, 3) := by decide +kernel
theorem dX2_serve_4 : decode cX2_serve 4 = .ok (.istore_n 3, 1) := by decide +kernel
theorem dX2_serve_5 : decode cX2_serve 5 = .ok (.aload_n 0, 1) := by decide +kernel
theorem dX2_serve_6 : decode cX2_serve 6 = .ok (.iconst 0, 1) := by decide +kernel
theorem dX2_serve_7 : decode cX2_serve 7 = .ok (.putfield 31, 3) := by decide +kernel
theorem dX2_serve_10 : decode cX2_serve 10 = .ok (.iconst 0, 1) := by decide +kernel
theorem dX2_serve_11 : decode cX2_serve 11 = .ok (.istore 4, 2) := by decide +kernel
theorem dX2_serve_13 : decode cX2_serve 13 = .ok (.iload 4, 2) := by decide +kernel
theorem dX2_serve_15 : decode cX2_serve 15 = .ok (.aload_n 0, 1) := by decide +kernel
theorem dX2_serve_16 : decode cX2_serve 16 = .ok (.getfield 43, 3) := by decide +kernel
theorem dX2_serve_19 : decode cX2_serve 19 = .ok (.invokevirtual 79, 3) := by decide +kernel
theorem dX2_serve_22 : decode cX2_serve 22 = .ok (.if_icmp .ge 93, 3) := by decide +kernel
theorem dX2_serve_25 : decode cX2_serve 25 = .ok (.aload_n 0, 1) := by decide +kernel
theorem dX2_serve_26 : decode cX2_serve 26 = .ok (.getfield 18, 3) := by decide +kernel
theorem dX2_serve_29 : decode cX2_serve 29 = .ok (.iload 4, 2) := by decide +kernel
theorem dX2_serve_31 : decode cX2_serve 31 = .ok (.iconst 0, 1) := by decide +kernel
theorem dX2_serve_32 : decode cX2_serve 32 = .ok (.iastore, 1) := by decide +kernel
theorem dX2_serve_33 : decode cX2_serve 33 = .ok (.aload_n 0, 1) := by decide +kernel
theorem dX2_serve_34 : decode cX2_serve 34 = .ok (.iload 4, 2) := by decide +kernel
theorem dX2_serve_36 : decode cX2_serve 36 = .ok (.iload_n 2, 1) := by decide +kernel
theorem dX2_serve_37 : decode cX2_serve 37 = .ok (.invokevirtual 102, 3) := by decide +kernel
theorem dX2_serve_40 : decode cX2_serve 40 = .ok (.ifCond .eq 69, 3) := by decide +kernel
theorem dX2_serve_43 : decode cX2_serve 43 = .ok (.aload_n 0, 1) := by decide +kernel
theorem dX2_serve_44 : decode cX2_serve 44 = .ok (.aload_n 1, 1) := by decide +kernel
theorem dX2_serve_45 : decode cX2_serve 45 = .ok (.iload 4, 2) := by decide +kernel
theorem dX2_serve_47 : decode cX2_serve 47 = .ok (.invokevirtual 83, 3) := by decide +kernel
theorem dX2_serve_50 : decode cX2_serve 50 = .ok (.ifCond .eq 59, 3) := by decide +kernel
theorem dX2_serve_53 : decode cX2_serve 53 = .ok (.aload_n 0, 1) := by decide +kernel
theorem dX2_serve_54 : decode cX2_serve 54 = .ok (.getfield 18, 3) := by decide +kernel
theorem dX2_serve_57 : decode cX2_serve 57 = .ok (.iload 4, 2) := by decide +kernel
theorem dX2_serve_59 : decode cX2_serve 59 = .ok (.aload_n 0, 1) := by decide +kernel
theorem dX2_serve_60 : decode cX2_serve 60 = .ok (.aload_n 1, 1) := by decide +kernel
theorem dX2_serve_61 : decode cX2_serve 61 = .ok (.iload 4, 2) := by decide +kernel
theorem dX2_serve_63 : decode cX2_serve 63 = .ok (.invokevirtual 95, 3) := by decide +kernel
theorem dX2_serve_66 : decode cX2_serve 66 = .ok (.iload_n 3, 1) := by decide +kernel
theorem dX2_serve_67 : decode cX2_serve 67 = .ok (.invokestatic 106, 3) := by decide +kernel
theorem dX2_serve_70 : decode cX2_serve 70 = .ok (.iastore, 1) := by decide +kernel
theorem dX2_serve_71 : decode cX2_serve 71 = .ok (.aload_n 0, 1) := by decide +kernel
theorem dX2_serve_72 : decode cX2_serve 72 = .ok (.dup, 1) := by decide +kernel
theorem dX2_serve_73 : decode cX2_serve 73 = .ok (.getfield 31, 3) := by decide +kernel
theorem dX2_serve_76 : decode cX2_serve 76 = .ok (.aload_n 0, 1) := by decide +kernel
theorem dX2_serve_77 : decode cX2_serve 77 = .ok (.getfield 18, 3) := by decide +kernel
theorem dX2_serve_80 : decode cX2_serve 80 = .ok (.iload 4, 2) := by decide +kernel
theorem dX2_serve_82 : decode cX2_serve 82 = .ok (.iaload, 1) := by decide +kernel
theorem dX2_serve_83 : decode cX2_serve 83 = .ok (.iadd, 1) := by decide +kernel
theorem dX2_serve_84 : decode cX2_serve 84 = .ok (.putfield 31, 3) := by decide +kernel
theorem dX2_serve_87 : decode cX2_serve 87 = .ok (.iload_n 3, 1) := by decide +kernel
theorem dX2_serve_88 : decode cX2_serve 88 = .ok (.aload_n 0, 1) := by decide +kernel
theorem dX2_serve_89 : decode cX2_serve 89 = .ok (.getfield 9, 3) := by decide +kernel
theorem dX2_serve_92 : decode cX2_serve 92 = .ok (.iconst 4, 1) := by decide +kernel
theorem dX2_serve_93 : decode cX2_serve 93 = .ok (.if_icmp .ne 7, 3) := by decide +kernel
theorem dX2_serve_96 : decode cX2_serve 96 = .ok (.iconst 0, 1) := by decide +kernel
theorem dX2_serve_97 : decode cX2_serve 97 = .ok (.goto 10, 3) := by decide +kernel
theorem dX2_serve_100 : decode cX2_serve 100 = .ok (.aload_n 0, 1) := by decide +kernel
theorem dX2_serve_101 : decode cX2_serve 101 = .ok (.getfield 18, 3) := by decide +kernel
theorem dX2_serve_104 : decode cX2_serve 104 = .ok (.iload 4, 2) := by decide +kernel
theorem dX2_serve_106 : decode cX2_serve 106 = .ok (.iaload, 1) := by decide +kernel
theorem dX2_serve_107 : decode cX2_serve 107 = .ok (.isub, 1) := by decide +kernel
theorem dX2_serve_108 : decode cX2_serve 108 = .ok (.istore_n 3, 1) := by decide +kernel
theorem dX2_serve_109 : decode cX2_serve 109 = .ok (.iinc 4 1, 3) := by decide +kernel
theorem dX2_serve_112 : decode cX2_serve 112 = .ok (.goto (-99), 3) := by decide +kernel
theorem dX2_serve_115 : decode cX2_serve 115 = .ok (.return_, 1) := by decide +kernel
noncomputable def b_X2_serve_0 (rec : Rk) (x1 x2 : Int) (h : Hp) : Option (Int × Hp) :=
  lt (gI h 10 x1 2) fun z1 =>
  lt (sI h 2 0 7 0) fun h2 =>
  rec 1 [x1, x2, z1, 0] h2
noncomputable def b_X2_serve_1 (rec : Rk) (x1 x2 x3 x4 : Int) (h : Hp) : Option (Int × Hp) :=
  rf (gR h 2 0 0) 0 fun j1 =>
  bd (f_X0_size j1 h) fun v2 h3 =>
  if v2 ≤ x4 then (
    some (0, h3)
  ) else (
    ck (0 ≤ x4 ∧ x4 < 9) <|
    lt (sI h3 29 0 x4 0) fun h4 =>
    bd (f_X2_isFed x4 x2 h4) fun v5 h6 =>
    if v5 = 0 then (
      rec 3 [x1, x2, x3, x4] h6
    ) else (
      bd (f_X2_isAboard x1 x4 h6) fun v7 h8 =>
      if v7 = 0 then (
        rec 3 [x1, x2, x3, x4] h8
      ) else (
        bd (f_X2_portion x1 x4 h8) fun v9 h10 =>
        ck (0 ≤ x4 ∧ x4 < 9) <|
        lt (sI h10 29 0 x4 (min v9 x3)) fun h11 =>
        ck (0 ≤ x4 ∧ x4 < 9) <|
        ck (-2147483648 ≤ (gI h11 2 0 7) + (gI h11 29 0 x4) ∧ (gI h11 2 0 7) + (gI h11 29 0 x4) < 2147483648) <|
        lt (sI h11 2 0 7 ((gI h11 2 0 7) + (gI h11 29 0 x4))) fun h12 =>
        if (gI h12 2 0 1) = 4 then (
          rec 2 [x1, x2, x4, 0, x3] h12
        ) else (
          ck (0 ≤ x4 ∧ x4 < 9) <|
          rec 2 [x1, x2, x4, gI h12 29 0 x4, x3] h12
        )
      )
    )
  )
noncomputable def b_X2_serve_2 (rec : Rk) (x1 x2 x4 y0 y1 : Int) (h : Hp) : Option (Int × Hp) :=
  ck (-2147483648 ≤ y1 - y0 ∧ y1 - y0 < 2147483648) <|
  lt (y1 - y0) fun z1 =>
  rec 3 [x1, x2, z1, x4] h
noncomputable def b_X2_serve_3 (rec : Rk) (x1 x2 x3 x4 : Int) (h : Hp) : Option (Int × Hp) :=
  ck (-2147483648 ≤ x4 + 1 ∧ x4 + 1 < 2147483648) <|
  rec 1 [x1, x2, x3, x4 + 1] h
noncomputable def g_X2_serve (n : Nat) : Rk := Nat.rec (motive := fun _ => Rk) (fun _ _ _ => none) (fun _ rec k l h => if k = 0 then b_X2_serve_0 rec (l.getD 0 0) (l.getD 1 0) h else if k = 1 then b_X2_serve_1 rec (l.getD 0 0) (l.getD 1 0) (l.getD 2 0) (l.getD 3 0) h else if k = 2 then b_X2_serve_2 rec (l.getD 0 0) (l.getD 1 0) (l.getD 2 0) (l.getD 3 0) (l.getD 4 0) h else if k = 3 then b_X2_serve_3 rec (l.getD 0 0) (l.getD 1 0) (l.getD 2 0) (l.getD 3 0) h else none) n
noncomputable def f_X2_serve (x1 x2 : Int) (h : Hp) : Option (Int × Hp) := g_X2_serve FU 0 [x1, x2] h
set_option maxHeartbeats 4000000 in
set_option maxRecDepth 100000 in
theorem t_X2_serve_0 (E : xE) (d : Nat) (rec : Rk) (r : Int × Hp) (hr_13 : ∀ (x1 x2 x3 x4 : Int) (h : Hp), Lay h → rec 1 [x1, x2, x3, x4] h = some r → X E mX2_serve (d + 4) (0, 0) (0, 0) 13 [some (xr 2 0), some (xr 10 x1), some (xi x2), some (xi x3), some (xi x4)] [] h (PoV r)) (x1 x2 : Int) (h : Hp) (hL : Lay h) (hF : b_X2_serve_0 rec x1 x2 h = some r) : X E mX2_serve (d + 4) (0, 0) (0, 0) 0 [some (xr 2 0), some (xr 10 x1), some (xi x2), none, none] [] h (PoV r) := by
  unfold b_X2_serve_0 at hF
  refine x_aload_n (i := 1) (b := 1) dX2_serve_0 rfl rfl rfl ?_
  refine x_getI (v := gI h 10 x1 2) (b := 4) fk_X2_99 dX2_serve_1 (by decide) rfl rfl ?_
  obtain ⟨z1, e_z1, hF⟩ := lt_e hF
  refine x_eq (y := z1) e_z1 ?_
  refine x_istore_n (i := 3) (b := 5) (ls2 := [some (xr 2 0), some (xr 10 x1), some (xi x2), some (xi z1), none]) dX2_serve_4 rfl (Nat.le_of_ble_eq_true rfl) rfl rfl ?_
  refine x_aload_n (i := 0) (b := 6) dX2_serve_5 rfl rfl rfl ?_
  refine x_iconst (n := 0) (b := 7) dX2_serve_6 (by decide) rfl ?_
  refine x_putI (b := 10) fk_X2_31 dX2_serve_7 rfl rfl 7 rfl ?_
  obtain ⟨h2, e_h2, hF⟩ := lt_e hF
  refine x_hp (h2 := h2) e_h2 ?_
  replace hL : Lay h2 := by rw [← e_h2]; exact hL
  refine x_iconst (n := 0) (b := 11) dX2_serve_10 (by decide) rfl ?_
  refine x_istore (i := 4) (b := 13) (ls2 := [some (xr 2 0), some (xr 10 x1), some (xi x2), some (xi z1), some (xi 0)]) dX2_serve_11 (Nat.le_of_ble_eq_true rfl) rfl rfl ?_
  exact x_dp (ls2 := [some (xr 2 0), some (xr 10 x1), some (xi x2), some (xi z1), some (xi 0)]) ⟨rfl, rfl, rfl, rfl, rfl, trivial⟩ (hr_13 x1 x2 z1 0 h2 hL hF)
set_option maxHeartbeats 4000000 in
set_option maxRecDepth 100000 in
theorem t_X2_serve_1 (E : xE) (d : Nat) (rec : Rk) (r : Int × Hp) (hr_107 : ∀ (x1 x2 x4 y0 y1 : Int) (h : Hp), Lay h → rec 2 [x1, x2, x4, y0, y1] h = some r → X E mX2_serve (d + 4) (0, 0) (0, 0) 107 [some (xr 2 0), some (xr 10 x1), some (xi x2), none, some (xi x4)] [xi y0, xi y1] h (PoV r)) (hr_109 : ∀ (x1 x2 x3 x4 : Int) (h : Hp), Lay h → rec 3 [x1, x2, x3, x4] h = some r → X E mX2_serve (d + 4) (0, 0) (0, 0) 109 [some (xr 2 0), some (xr 10 x1), some (xi x2), some (xi x3), some (xi x4)] [] h (PoV r)) (x1 x2 x3 x4 : Int) (h : Hp) (hL : Lay h) (hF : b_X2_serve_1 rec x1 x2 x3 x4 h = some r) : X E mX2_serve (d + 4) (0, 0) (0, 0) 13 [some (xr 2 0), some (xr 10 x1), some (xi x2), some (xi x3), some (xi x4)] [] h (PoV r) := by
  unfold b_X2_serve_1 at hF
  refine x_iload (i := 4) (b := 15) dX2_serve_13 rfl rfl ?_
  refine x_aload_n (i := 0) (b := 16) dX2_serve_15 rfl rfl rfl ?_
  obtain ⟨j1, e_j1, hF⟩ := rf_e hF
  refine x_getR (v := some (0, j1)) (b := 19) fk_X2_43 dX2_serve_16 rfl e_j1 rfl ?_
  obtain ⟨v2, h3, hq, hF⟩ := bd_e hF
  refine x_callV (as := []) (rest := [xi x4]) (b := 22) (c_X0_size (d + 2) j1 h _ hL hq) dX2_serve_19 cw_X2_79 ⟨_, _, rfl, Nat.le_of_ble_eq_true rfl⟩ rfl rfl (Nat.le_of_ble_eq_true rfl) ⟨Nat.le_refl _, Nat.le_refl _⟩ rfl (fun rv hh hp _ => ?_)
  obtain ⟨rfl, rfl, hL⟩ := hp
  refine x_icmp_ge (tgt := 115) (b := 25) dX2_serve_22 (by decide) rfl (fun hc => ?_) (fun hc => ?_)
  · replace hF := br_T hc hF
    refine x_return dX2_serve_115 rfl ⟨Nat.le_refl _, Nat.le_refl _⟩ ?_
    cases hF
    exact ⟨rfl, rfl, hL⟩
  · replace hF := br_F hc hF
    refine x_aload_n (i := 0) (b := 26) dX2_serve_25 rfl rfl rfl ?_
    refine x_getL (j := 0) (t := (29, 0, true)) (b := 29) fk_X2_18 dX2_serve_26 rfl hL rfl rfl rfl ?_
    refine x_iload (i := 4) (b := 31) dX2_serve_29 rfl rfl ?_
    refine x_iconst (n := 0) (b := 32) dX2_serve_31 (by decide) rfl ?_
    obtain ⟨hs, hF⟩ := ck_e hF
    have hs1 := hs
    refine x_iast (b := 33) ak_29 dX2_serve_32 hs1 rfl ?_
    obtain ⟨h4, e_h4, hF⟩ := lt_e hF
    refine x_hp (h2 := h4) e_h4 ?_
    replace hL : Lay h4 := by rw [← e_h4]; exact hL
    refine x_aload_n (i := 0) (b := 34) dX2_serve_33 rfl rfl rfl ?_
    refine x_iload (i := 4) (b := 36) dX2_serve_34 rfl rfl ?_
    refine x_iload_n (i := 2) (b := 37) dX2_serve_36 rfl rfl rfl ?_
    obtain ⟨v5, h6, hq, hF⟩ := bd_e hF
    refine x_callV (as := [xi x4, xi x2]) (rest := []) (b := 40) (c_X2_isFed (d + 2) x4 x2 h4 _ hL hq) dX2_serve_37 cw_X2_102 ⟨_, _, rfl, Nat.le_of_ble_eq_true rfl⟩ rfl rfl (Nat.le_of_ble_eq_true rfl) ⟨Nat.le_refl _, Nat.le_refl _⟩ rfl (fun rv hh hp _ => ?_)
    obtain ⟨rfl, rfl, hL⟩ := hp
    refine x_if_eq (tgt := 109) (b := 43) dX2_serve_40 (by decide) rfl (fun hc => ?_) (fun hc => ?_)
    · replace hF := br_T hc hF
      exact x_dp (ls2 := [some (xr 2 0), some (xr 10 x1), some (xi x2), some (xi x3), some (xi x4)]) ⟨rfl, rfl, rfl, rfl, rfl, trivial⟩ (hr_109 x1 x2 x3 x4 h6 hL hF)
    · replace hF := br_F hc hF
      refine x_aload_n (i := 0) (b := 44) dX2_serve_43 rfl rfl rfl ?_
      refine x_aload_n (i := 1) (b := 45) dX2_serve_44 rfl rfl rfl ?_
      refine x_iload (i := 4) (b := 47) dX2_serve_45 rfl rfl ?_
      obtain ⟨v7, h8, hq, hF⟩ := bd_e hF
      refine x_callV (as := [xr 10 x1, xi x4]) (rest := []) (b := 50) (c_X2_isAboard d x1 x4 h6 _ hL hq) dX2_serve_47 cw_X2_83 ⟨_, _, rfl, Nat.le_of_ble_eq_true rfl⟩ rfl rfl (Nat.le_of_ble_eq_true rfl) ⟨Nat.le_refl _, Nat.le_refl _⟩ rfl (fun rv hh hp _ => ?_)
      obtain ⟨rfl, rfl, hL⟩ := hp
      refine x_if_eq (tgt := 109) (b := 53) dX2_serve_50 (by decide) rfl (fun hc => ?_) (fun hc => ?_)
      · replace hF := br_T hc hF
        exact x_dp (ls2 := [some (xr 2 0), some (xr 10 x1), some (xi x2), some (xi x3), some (xi x4)]) ⟨rfl, rfl, rfl, rfl, rfl, trivial⟩ (hr_109 x1 x2 x3 x4 h8 hL hF)
      · replace hF := br_F hc hF
        refine x_aload_n (i := 0) (b := 54) dX2_serve_53 rfl rfl rfl ?_
        refine x_getL (j := 0) (t := (29, 0, true)) (b := 57) fk_X2_18 dX2_serve_54 rfl hL rfl rfl rfl ?_
        refine x_iload (i := 4) (b := 59) dX2_serve_57 rfl rfl ?_
        refine x_aload_n (i := 0) (b := 60) dX2_serve_59 rfl rfl rfl ?_
        refine x_aload_n (i := 1) (b := 61) dX2_serve_60 rfl rfl rfl ?_
        refine x_iload (i := 4) (b := 63) dX2_serve_61 rfl rfl ?_
        obtain ⟨v9, h10, hq, hF⟩ := bd_e hF
        refine x_callV (as := [xr 10 x1, xi x4]) (rest := [xi x4, xr 29 0]) (b := 66) (c_X2_portion d x1 x4 h8 _ hL hq) dX2_serve_63 cw_X2_95 ⟨_, _, rfl, Nat.le_of_ble_eq_true rfl⟩ rfl rfl (Nat.le_of_ble_eq_true rfl) ⟨Nat.le_refl _, Nat.le_refl _⟩ rfl (fun rv hh hp _ => ?_)
        obtain ⟨rfl, rfl, hL⟩ := hp
        refine x_iload_n (i := 3) (b := 67) dX2_serve_66 rfl rfl rfl ?_
        refine x_min (b := 70) dX2_serve_67 mw_X2_106 (Nat.le_of_ble_eq_true rfl) ⟨Nat.le_refl _, Nat.le_refl _⟩ rfl ?_
        obtain ⟨hs, hF⟩ := ck_e hF
        have hs1 := hs
        refine x_iast (b := 71) ak_29 dX2_serve_70 hs1 rfl ?_
        obtain ⟨h11, e_h11, hF⟩ := lt_e hF
        refine x_hp (h2 := h11) e_h11 ?_
        replace hL : Lay h11 := by rw [← e_h11]; exact hL
        refine x_aload_n (i := 0) (b := 72) dX2_serve_71 rfl rfl rfl ?_
        refine x_dup (b := 73) dX2_serve_72 rfl rfl ?_
        refine x_getI (v := gI h11 2 0 7) (b := 76) fk_X2_31 dX2_serve_73 (by decide) rfl rfl ?_
        refine x_aload_n (i := 0) (b := 77) dX2_serve_76 rfl rfl rfl ?_
        refine x_getL (j := 0) (t := (29, 0, true)) (b := 80) fk_X2_18 dX2_serve_77 rfl hL rfl rfl rfl ?_
        refine x_iload (i := 4) (b := 82) dX2_serve_80 rfl rfl ?_
        obtain ⟨hs, hF⟩ := ck_e hF
        refine x_iald (v := gI h11 29 0 x4) (b := 83) ak_29 dX2_serve_82 hs rfl rfl ?_
        obtain ⟨hs, hF⟩ := ck_e hF
        refine x_iadd (b := 84) dX2_serve_83 hs rfl ?_
        refine x_putI (b := 87) fk_X2_31 dX2_serve_84 rfl rfl 7 rfl ?_
        obtain ⟨h12, e_h12, hF⟩ := lt_e hF
        refine x_hp (h2 := h12) e_h12 ?_
        replace hL : Lay h12 := by rw [← e_h12]; exact hL
        refine x_iload_n (i := 3) (b := 88) dX2_serve_87 rfl rfl rfl ?_
        refine x_aload_n (i := 0) (b := 89) dX2_serve_88 rfl rfl rfl ?_
        refine x_getI (v := gI h12 2 0 1) (b := 92) fk_X2_9 dX2_serve_89 (by decide) rfl rfl ?_
        refine x_iconst (n := 4) (b := 93) dX2_serve_92 (by decide) rfl ?_
        refine x_icmp_ne (tgt := 100) (b := 96) dX2_serve_93 (by decide) rfl (fun hc => ?_) (fun hc => ?_)
        · replace hF := br_F hc hF
          refine x_aload_n (i := 0) (b := 101) dX2_serve_100 rfl rfl rfl ?_
          refine x_getL (j := 0) (t := (29, 0, true)) (b := 104) fk_X2_18 dX2_serve_101 rfl hL rfl rfl rfl ?_
          refine x_iload (i := 4) (b := 106) dX2_serve_104 rfl rfl ?_
          obtain ⟨hs, hF⟩ := ck_e hF
          refine x_iald (v := gI h12 29 0 x4) (b := 107) ak_29 dX2_serve_106 hs rfl rfl ?_
          exact x_dp (ls2 := [some (xr 2 0), some (xr 10 x1), some (xi x2), none, some (xi x4)]) ⟨rfl, rfl, rfl, rfl, trivial⟩ (hr_107 x1 x2 x4 (gI h12 29 0 x4) x3 h12 hL hF)
        · replace hF := br_T hc hF
          refine x_iconst (n := 0) (b := 97) dX2_serve_96 (by decide) rfl ?_
          refine x_goto (tgt := 107) dX2_serve_97 (by decide) ?_
          exact x_dp (ls2 := [some (xr 2 0), some (xr 10 x1), some (xi x2), none, some (xi x4)]) ⟨rfl, rfl, rfl, rfl, trivial⟩ (hr_107 x1 x2 x4 0 x3 h12 hL hF)
set_option maxHeartbeats 4000000 in
set_option maxRecDepth 100000 in
theorem t_X2_serve_2 (E : xE) (d : Nat) (rec : Rk) (r : Int × Hp) (hr_109 : ∀ (x1 x2 x3 x4 : Int) (h : Hp), Lay h → rec 3 [x1, x2, x3, x4] h = some r → X E mX2_serve (d + 4) (0, 0) (0, 0) 109 [some (xr 2 0), some (xr 10 x1), some (xi x2), some (xi x3), some (xi x4)] [] h (PoV r)) (x1 x2 x4 y0 y1 : Int) (h : Hp) (hL : Lay h) (hF : b_X2_serve_2 rec x1 x2 x4 y0 y1 h = some r) : X E mX2_serve (d + 4) (0, 0) (0, 0) 107 [some (xr 2 0), some (xr 10 x1), some (xi x2), none, some (xi x4)] [xi y0, xi y1] h (PoV r) := by
  unfold b_X2_serve_2 at hF
  obtain ⟨hs, hF⟩ := ck_e hF
  refine x_isub (b := 108) dX2_serve_107 hs rfl ?_
  obtain ⟨z1, e_z1, hF⟩ := lt_e hF
  refine x_eq (y := z1) e_z1 ?_
  refine x_istore_n (i := 3) (b := 109) (ls2 := [some (xr 2 0), some (xr 10 x1), some (xi x2), some (xi z1), some (xi x4)]) dX2_serve_108 rfl (Nat.le_of_ble_eq_true rfl) rfl rfl ?_
  exact x_dp (ls2 := [some (xr 2 0), some (xr 10 x1), some (xi x2), some (xi z1), some (xi x4)]) ⟨rfl, rfl, rfl, rfl, rfl, trivial⟩ (hr_109 x1 x2 z1 x4 h hL hF)
set_option maxHeartbeats 4000000 in
set_option maxRecDepth 100000 in
theorem t_X2_serve_3 (E : xE) (d : Nat) (rec : Rk) (r : Int × Hp) (hr_13 : ∀ (x1 x2 x3 x4 : Int) (h : Hp), Lay h → rec 1 [x1, x2, x3, x4] h = some r → X E mX2_serve (d + 4) (0, 0) (0, 0) 13 [some (xr 2 0), some (xr 10 x1), some (xi x2), some (xi x3), some (xi x4)] [] h (PoV r)) (x1 x2 x3 x4 : Int) (h : Hp) (hL : Lay h) (hF : b_X2_serve_3 rec x1 x2 x3 x4 h = some r) : X E mX2_serve (d + 4) (0, 0) (0, 0) 109 [some (xr 2 0), some (xr 10 x1), some (xi x2), some (xi x3), some (xi x4)] [] h (PoV r) := by
  unfold b_X2_serve_3 at hF
  obtain ⟨hs, hF⟩ := ck_e hF
  refine x_iinc (i := 4) (b := 112) (ls2 := [some (xr 2 0), some (xr 10 x1), some (xi x2), some (xi x3), some (xi (x4 + 1))]) dX2_serve_109 rfl (Nat.le_of_ble_eq_true rfl) hs rfl rfl ?_
  refine x_goto (tgt := 13) dX2_serve_112 (by decide) ?_
  exact x_dp (ls2 := [some (xr 2 0), some (xr 10 x1), some (xi x2), some (xi x3), some (xi (x4 + 1))]) ⟨rfl, rfl, rfl, rfl, rfl, trivial⟩ (hr_13 x1 x2 x3 (x4 + 1) h hL hF)
set_option maxHeartbeats 4000000 in
set_option maxRecDepth 100000 in
theorem u_X2_serve (E : xE) (d : Nat) (r : Int × Hp) : ∀ n : Nat, (∀ (x1 x2 : Int) (h : Hp), Lay h → g_X2_serve n 0 [x1, x2] h = some r → X E mX2_serve (d + 4) (0, 0) (0, 0) 0 [some (xr 2 0), some (xr 10 x1), some (xi x2), none, none] [] h (PoV r)) ∧ (∀ (x1 x2 x3 x4 : Int) (h : Hp), Lay h → g_X2_serve n 1 [x1, x2, x3, x4] h = some r → X E mX2_serve (d + 4) (0, 0) (0, 0) 13 [some (xr 2 0), some (xr 10 x1), some (xi x2), some (xi x3), some (xi x4)] [] h (PoV r)) ∧ (∀ (x1 x2 x4 y0 y1 : Int) (h : Hp), Lay h → g_X2_serve n 2 [x1, x2, x4, y0, y1] h = some r → X E mX2_serve (d + 4) (0, 0) (0, 0) 107 [some (xr 2 0), some (xr 10 x1), some (xi x2), none, some (xi x4)] [xi y0, xi y1] h (PoV r)) ∧ (∀ (x1 x2 x3 x4 : Int) (h : Hp), Lay h → g_X2_serve n 3 [x1, x2, x3, x4] h = some r → X E mX2_serve (d + 4) (0, 0) (0, 0) 109 [some (xr 2 0), some (xr 10 x1), some (xi x2), some (xi x3), some (xi x4)] [] h (PoV r)) := by
  intro n
  induction n with
  | zero => exact ⟨fun _ _ _ _ hF => no_e (r := r) hF, fun _ _ _ _ _ _ hF => no_e (r := r) hF, fun _ _ _ _ _ _ _ hF => no_e (r := r) hF, fun _ _ _ _ _ _ hF => no_e (r := r) hF⟩
  | succ n ih => exact ⟨fun x1 x2 h hL hF => t_X2_serve_0 E d (g_X2_serve n) r ih.2.1 x1 x2 h hL hF, fun x1 x2 x3 x4 h hL hF => t_X2_serve_1 E d (g_X2_serve n) r ih.2.2.1 ih.2.2.2 x1 x2 x3 x4 h hL hF, fun x1 x2 x4 y0 y1 h hL hF => t_X2_serve_2 E d (g_X2_serve n) r ih.2.2.2 x1 x2 x4 y0 y1 h hL hF, fun x1 x2 x3 x4 h hL hF => t_X2_serve_3 E d (g_X2_serve n) r ih.2.1 x1 x2 x3 x4 h hL hF⟩
theorem c_X2_serve (d : Nat) (x1 x2 : Int) (h : Hp) (r : Int × Hp) (hL : Lay h) (hF : f_X2_serve x1 x2 h = some r) : Sp mX2_serve (d + 4) (0, 0) [xr 2 0, xr 10 x1, xi x2] h (PoV r) :=
  sp_of (by decide) rfl (Nat.le_of_ble_eq_true rfl) (ls := [some (xr 2 0), some (xr 10 x1), some (xi x2), none, none]) rfl (fun E _ => (u_X2_serve E d r FU).1 x1 x2 h hL hF)
theorem dX2_value_0 : decode cX2_value 0 = .ok (.aload_n 0, 1) := by decide +kernel
theorem dX2_value_1 : decode cX2_value 1 = .ok (.getfield 43, 3) := by decide +kernel
theorem dX2_value_4 : decode cX2_value 4 = .ok (.iload_n 2, 1) := by decide +kernel
theorem dX2_value_5 : decode cX2_value 5 = .ok (.invokevirtual 47, 3) := by decide +kernel
theorem dX2_value_8 : decode cX2_value 8 = .ok (.ifCond .ne 7, 3) := by decide +kernel
theorem dX2_value_11 : decode cX2_value 11 = .ok (.ldc2_w 114, 3) := by decide +kernel
theorem dX2_value_14 : decode cX2_value 14 = .ok (.lreturn, 1) := by decide +kernel
theorem dX2_value_15 : decode cX2_value 15 = .ok (.aload_n 0, 1) := by decide +kernel
theorem dX2_value_16 : decode cX2_value 16 = .ok (.getfield 43, 3) := by decide +kernel
theorem dX2_value_19 : decode cX2_value 19 = .ok (.getfield 116, 3) := by decide +kernel
theorem dX2_value_22 : decode cX2_value 22 = .ok (.getfield 120, 3) := by decide +kernel
theorem dX2_value_25 : decode cX2_value 25 = .ok (.astore 6, 2) := by decide +kernel
theorem dX2_value_27 : decode cX2_value 27 = .ok (.aload 6, 2) := by decide +kernel
theorem dX2_value_29 : decode cX2_value 29 = .ok (.iconst 0, 1) := by decide +kernel
theorem dX2_value_30 : decode cX2_value 30 = .ok (.iload_n 3, 1) := by decide +kernel
theorem dX2_value_31 : decode cX2_value 31 = .ok (.i2l, 1) := by decide +kernel
theorem dX2_value_32 : decode cX2_value 32 = .ok (.lastore, 1) := by decide +kernel
theorem dX2_value_33 : decode cX2_value 33 = .ok (.aload 6, 2) := by decide +kernel
theorem dX2_value_35 : decode cX2_value 35 = .ok (.iconst 1, 1) := by decide +kernel
theorem dX2_value_36 : decode cX2_value 36 = .ok (.aload_n 0, 1) := by decide +kernel
theorem dX2_value_37 : decode cX2_value 37 = .ok (.getfield 43, 3) := by decide +kernel
theorem dX2_value_40 : decode cX2_value 40 = .ok (.getfield 124, 3) := by decide +kernel
theorem dX2_value_43 : decode cX2_value 43 = .ok (.iload 4, 2) := by decide +kernel
theorem dX2_value_45 : decode cX2_value 45 = .ok (.invokevirtual 128, 3) := by decide +kernel
theorem dX2_value_48 : decode cX2_value 48 = .ok (.i2l, 1) := by decide +kernel
theorem dX2_value_49 : decode cX2_value 49 = .ok (.lastore, 1) := by decide +kernel
theorem dX2_value_50 : decode cX2_value 50 = .ok (.aload 6, 2) := by decide +kernel
theorem dX2_value_52 : decode cX2_value 52 = .ok (.iconst 2, 1) := by decide +kernel
theorem dX2_value_53 : decode cX2_value 53 = .ok (.aload_n 0, 1) := by decide +kernel
theorem dX2_value_54 : decode cX2_value 54 = .ok (.getfield 43, 3) := by decide +kernel
theorem dX2_value_57 : decode cX2_value 57 = .ok (.aload_n 1, 1) := by decide +kernel
theorem dX2_value_58 : decode cX2_value 58 = .ok (.getfield 73, 3) := by decide +kernel
theorem dX2_value_61 : decode cX2_value 61 = .ok (.invokevirtual 134, 3) := by decide +kernel
theorem dX2_value_64 : decode cX2_value 64 = .ok (.iload_n 3, 1) := by decide +kernel
theorem dX2_value_65 : decode cX2_value 65 = .ok (.if_icmp .ne 7, 3) := by decide +kernel
theorem dX2_value_68 : decode cX2_value 68 = .ok (.lconst 1, 1) := by decide +kernel
theorem dX2_value_69 : decode cX2_value 69 = .ok (.goto 4, 3) := by decide +kernel
theorem dX2_value_72 : decode cX2_value 72 = .ok (.lconst 0, 1) := by decide +kernel
theorem dX2_value_73 : decode cX2_value 73 = .ok (.lastore, 1) := by decide +kernel
theorem dX2_value_74 : decode cX2_value 74 = .ok (.aload 6, 2) := by decide +kernel
theorem dX2_value_76 : decode cX2_value 76 = .ok (.iconst 3, 1) := by decide +kernel
theorem dX2_value_77 : decode cX2_value 77 = .ok (.aload_n 1, 1) := by decide +kernel
theorem dX2_value_78 : decode cX2_value 78 = .ok (.getfield 73, 3) := by decide +kernel
theorem dX2_value_81 : decode cX2_value 81 = .ok (.i2l, 1) := by decide +kernel
theorem dX2_value_82 : decode cX2_value 82 = .ok (.lastore, 1) := by decide +kernel
theorem dX2_value_83 : decode cX2_value 83 = .ok (.aload 6, 2) := by decide +kernel
theorem dX2_value_85 : decode cX2_value 85 = .ok (.iconst 4, 1) := by decide +kernel
theorem dX2_value_86 : decode cX2_value 86 = .ok (.iload 5, 2) := by decide +kernel
theorem dX2_value_88 : decode cX2_value 88 = .ok (.i2l, 1) := by decide +kernel
theorem dX2_value_89 : decode cX2_value 89 = .ok (.lastore, 1) := by decide +kernel
theorem dX2_value_90 : decode cX2_value 90 = .ok (.aload 6, 2) := by decide +kernel
theorem dX2_value_92 : decode cX2_value 92 = .ok (.iconst 5, 1) := by decide +kernel
theorem dX2_value_93 : decode cX2_value 93 = .ok (.aload_n 1, 1) := by decide +kernel
theorem dX2_value_94 : decode cX2_value 94 = .ok (.getfield 137, 3) := by decide +kernel
theorem dX2_value_97 : decode cX2_value 97 = .ok (.iload_n 2, 1) := by decide +kernel
theorem dX2_value_98 : decode cX2_value 98 = .ok (.iaload, 1) := by decide +kernel
theorem dX2_value_99 : decode cX2_value 99 = .ok (.i2l, 1) := by decide +kernel
theorem dX2_value_100 : decode cX2_value 100 = .ok (.lastore, 1) := by decide +kernel
theorem dX2_value_101 : decode cX2_value 101 = .ok (.aload 6, 2) := by decide +kernel
theorem dX2_value_103 : decode cX2_value 103 = .ok (.bipush 6, 2) := by decide +kernel
theorem dX2_value_105 : decode cX2_value 105 = .ok (.aload_n 1, 1) := by decide +kernel
theorem dX2_value_106 : decode cX2_value 106 = .ok (.getfield 99, 3) := by decide +kernel
theorem dX2_value_109 : decode cX2_value 109 = .ok (.i2l, 1) := by decide +kernel
theorem dX2_value_110 : decode cX2_value 110 = .ok (.lastore, 1) := by decide +kernel
theorem dX2_value_111 : decode cX2_value 111 = .ok (.aload_n 0, 1) := by decide +kernel
theorem dX2_value_112 : decode cX2_value 112 = .ok (.getfield 43, 3) := by decide +kernel
theorem dX2_value_115 : decode cX2_value 115 = .ok (.getfield 116, 3) := by decide +kernel
theorem dX2_value_118 : decode cX2_value 118 = .ok (.aload_n 0, 1) := by decide +kernel
theorem dX2_value_119 : decode cX2_value 119 = .ok (.getfield 43, 3) := by decide +kernel
theorem dX2_value_122 : decode cX2_value 122 = .ok (.getfield 64, 3) := by decide +kernel
theorem dX2_value_125 : decode cX2_value 125 = .ok (.iload_n 2, 1) := by decide +kernel
theorem dX2_value_126 : decode cX2_value 126 = .ok (.aaload, 1) := by decide +kernel
theorem dX2_value_127 : decode cX2_value 127 = .ok (.getfield 140, 3) := by decide +kernel
theorem dX2_value_130 : decode cX2_value 130 = .ok (.aload_n 0, 1) := by decide +kernel
theorem dX2_value_131 : decode cX2_value 131 = .ok (.getfield 43, 3) := by decide +kernel
theorem dX2_value_134 : decode cX2_value 134 = .ok (.getfield 64, 3) := by decide +kernel
theorem dX2_value_137 : decode cX2_value 137 = .ok (.iload_n 2, 1) := by decide +kernel
theorem dX2_value_138 : decode cX2_value 138 = .ok (.aaload, 1) := by decide +kernel
theorem dX2_value_139 : decode cX2_value 139 = .ok (.getfield 143, 3) := by decide +kernel
theorem dX2_value_142 : decode cX2_value 142 = .ok (.invokevirtual 146, 3) := by decide +kernel
theorem dX2_value_145 : decode cX2_value 145 = .ok (.lreturn, 1) := by decide +kernel
noncomputable def b_X2_value_0 (rec : Rk) (x1 x2 x3 x4 x5 : Int) (h : Hp) : Option (Int × Hp) :=
  rf (gR h 2 0 0) 0 fun j1 =>
  bd (f_X0_isMouth j1 x2 h) fun v2 h3 =>
  if v2 = 0 then (
    some ((-9223372036854775808), h3)
  ) else (
    rf (gR h3 2 0 0) 0 fun j4 =>
    ck (0 ≤ (0 : Int) ∧ (0 : Int) < 7) <|
    lt (sI h3 27 j4 0 x3) fun h5 =>
    rf (gR h5 2 0 0) 0 fun j6 =>
    bd (f_X9_fromBahia j6 x4 h5) fun v7 h8 =>
    ck (0 ≤ (1 : Int) ∧ (1 : Int) < 7) <|
    lt (sI h8 27 j4 1 v7) fun h9 =>
    rf (gR h9 2 0 0) 0 fun j10 =>
    bd (f_X0_windAt j10 (gI h9 10 x1 0) h9) fun v11 h12 =>
    if v11 = x3 then (
      rec 1 [x1, x2, x5, j4, 1, 2, j4] h12
    ) else (
      rec 1 [x1, x2, x5, j4, 0, 2, j4] h12
    )
  )
noncomputable def b_X2_value_1 (rec : Rk) (x1 x2 x5 x6 y0 y1 y2 : Int) (h : Hp) : Option (Int × Hp) :=
  ck (0 ≤ y1 ∧ y1 < 7) <|
  lt (sI h 27 y2 y1 y0) fun h1 =>
  ck (0 ≤ (3 : Int) ∧ (3 : Int) < 7) <|
  lt (sI h1 27 x6 3 (gI h1 10 x1 0)) fun h2 =>
  ck (0 ≤ (4 : Int) ∧ (4 : Int) < 7) <|
  lt (sI h2 27 x6 4 x5) fun h3 =>
  ck (0 ≤ x2 ∧ x2 < 9) <|
  ck (0 ≤ (5 : Int) ∧ (5 : Int) < 7) <|
  lt (sI h3 27 x6 5 (gI h3 57 x1 x2)) fun h4 =>
  ck (0 ≤ (6 : Int) ∧ (6 : Int) < 7) <|
  lt (sI h4 27 x6 6 (gI h4 10 x1 2)) fun h5 =>
  rf (gR h5 2 0 0) 0 fun j6 =>
  rf (gR h5 2 0 0) 0 fun j7 =>
  ck (0 ≤ x2 ∧ x2 < 9) <|
  rf (gR h5 20 j7 x2) 4 fun j8 =>
  rf (gR h5 2 0 0) 0 fun j9 =>
  ck (0 ≤ x2 ∧ x2 < 9) <|
  rf (gR h5 20 j9 x2) 4 fun j10 =>
  bd (f_X1_work j6 (gI h5 4 j8 8) (gI h5 4 j10 9) h5) fun v11 h12 =>
  some (v11, h12)
noncomputable def g_X2_value (n : Nat) : Rk := Nat.rec (motive := fun _ => Rk) (fun _ _ _ => none) (fun _ rec k l h => if k = 0 then b_X2_value_0 rec (l.getD 0 0) (l.getD 1 0) (l.getD 2 0) (l.getD 3 0) (l.getD 4 0) h else if k = 1 then b_X2_value_1 rec (l.getD 0 0) (l.getD 1 0) (l.getD 2 0) (l.getD 3 0) (l.getD 4 0) (l.getD 5 0) (l.getD 6 0) h else none) n
noncomputable def f_X2_value (x1 x2 x3 x4 x5 : Int) (h : Hp) : Option (Int × Hp) := g_X2_value FU 0 [x1, x2, x3, x4, x5] h
set_option maxHeartbeats 4000000 in
set_option maxRecDepth 100000 in
theorem t_X2_value_0 (E : xE) (d : Nat) (rec : Rk) (r : Int × Hp) (hr_73 : ∀ (x1 x2 x5 x6 y0 y1 y2 : Int) (h : Hp), Lay h → rec 1 [x1, x2, x5, x6, y0, y1, y2] h = some r → X E mX2_value (d + 3) (0, 0) (0, 0) 73 [some (xr 2 0), some (xr 10 x1), some (xi x2), none, none, some (xi x5), some (xr 27 x6)] [xl y0, xi y1, xr 27 y2] h (PoL r)) (x1 x2 x3 x4 x5 : Int) (h : Hp) (hL : Lay h) (hF : b_X2_value_0 rec x1 x2 x3 x4 x5 h = some r) : X E mX2_value (d + 3) (0, 0) (0, 0) 0 [some (xr 2 0), some (xr 10 x1), some (xi x2), some (xi x3), some (xi x4), some (xi x5), none] [] h (PoL r) := by
  unfold b_X2_value_0 at hF
  refine x_aload_n (i := 0) (b := 1) dX2_value_0 rfl rfl rfl ?_
  obtain ⟨j1, e_j1, hF⟩ := rf_e hF
  refine x_getR (v := some (0, j1)) (b := 4) fk_X2_43 dX2_value_1 rfl e_j1 rfl ?_
  refine x_iload_n (i := 2) (b := 5) dX2_value_4 rfl rfl rfl ?_
  obtain ⟨v2, h3, hq, hF⟩ := bd_e hF
  refine x_callV (as := [xi x2]) (rest := []) (b := 8) (c_X0_isMouth d j1 x2 h _ hL hq) dX2_value_5 cw_X2_47 ⟨_, _, rfl, Nat.le_of_ble_eq_true rfl⟩ rfl rfl (Nat.le_of_ble_eq_true rfl) ⟨Nat.le_refl _, Nat.le_refl _⟩ rfl (fun rv hh hp _ => ?_)
  obtain ⟨rfl, rfl, hL⟩ := hp
  refine x_if_ne (tgt := 15) (b := 11) dX2_value_8 (by decide) rfl (fun hc => ?_) (fun hc => ?_)
  · replace hF := br_F hc hF
    refine x_aload_n (i := 0) (b := 16) dX2_value_15 rfl rfl rfl ?_
    obtain ⟨j4, e_j4, hF⟩ := rf_e hF
    refine x_getR (v := some (0, j4)) (b := 19) fk_X2_43 dX2_value_16 rfl e_j4 rfl ?_
    refine x_getL (j := j4) (t := (1, 0, true)) (b := 22) fk_X2_116 dX2_value_19 rfl hL rfl rfl rfl ?_
    refine x_getL (j := j4) (t := (27, 0, true)) (b := 25) fk_X2_120 dX2_value_22 rfl hL rfl rfl rfl ?_
    refine x_astore (i := 6) (b := 27) (ls2 := [some (xr 2 0), some (xr 10 x1), some (xi x2), some (xi x3), some (xi x4), some (xi x5), some (xr 27 j4)]) dX2_value_25 (Nat.le_of_ble_eq_true rfl) rfl rfl ?_
    refine x_aload (i := 6) (b := 29) dX2_value_27 rfl rfl ?_
    refine x_iconst (n := 0) (b := 30) dX2_value_29 (by decide) rfl ?_
    refine x_iload_n (i := 3) (b := 31) dX2_value_30 rfl rfl rfl ?_
    refine x_i2l (b := 32) dX2_value_31 rfl ?_
    obtain ⟨hs, hF⟩ := ck_e hF
    have hs1 := hs
    refine x_last (b := 33) ak_27 dX2_value_32 hs1 rfl ?_
    obtain ⟨h5, e_h5, hF⟩ := lt_e hF
    refine x_hp (h2 := h5) e_h5 ?_
    replace hL : Lay h5 := by rw [← e_h5]; exact hL
    refine x_aload (i := 6) (b := 35) dX2_value_33 rfl rfl ?_
    refine x_iconst (n := 1) (b := 36) dX2_value_35 (by decide) rfl ?_
    refine x_aload_n (i := 0) (b := 37) dX2_value_36 rfl rfl rfl ?_
    obtain ⟨j6, e_j6, hF⟩ := rf_e hF
    refine x_getR (v := some (0, j6)) (b := 40) fk_X2_43 dX2_value_37 rfl e_j6 rfl ?_
    refine x_getL (j := j6) (t := (9, 0, true)) (b := 43) fk_X2_124 dX2_value_40 rfl hL rfl rfl rfl ?_
    refine x_iload (i := 4) (b := 45) dX2_value_43 rfl rfl ?_
    obtain ⟨v7, h8, hq, hF⟩ := bd_e hF
    refine x_callV (as := [xi x4]) (rest := [xi 1, xr 27 j4]) (b := 48) (c_X9_fromBahia (d + 1) j6 x4 h5 _ hL hq) dX2_value_45 cw_X2_128 ⟨_, _, rfl, Nat.le_of_ble_eq_true rfl⟩ rfl rfl (Nat.le_of_ble_eq_true rfl) ⟨Nat.le_refl _, Nat.le_refl _⟩ rfl (fun rv hh hp _ => ?_)
    obtain ⟨rfl, rfl, hL⟩ := hp
    refine x_i2l (b := 49) dX2_value_48 rfl ?_
    obtain ⟨hs, hF⟩ := ck_e hF
    have hs1 := hs
    refine x_last (b := 50) ak_27 dX2_value_49 hs1 rfl ?_
    obtain ⟨h9, e_h9, hF⟩ := lt_e hF
    refine x_hp (h2 := h9) e_h9 ?_
    replace hL : Lay h9 := by rw [← e_h9]; exact hL
    refine x_aload (i := 6) (b := 52) dX2_value_50 rfl rfl ?_
    refine x_iconst (n := 2) (b := 53) dX2_value_52 (by decide) rfl ?_
    refine x_aload_n (i := 0) (b := 54) dX2_value_53 rfl rfl rfl ?_
    obtain ⟨j10, e_j10, hF⟩ := rf_e hF
    refine x_getR (v := some (0, j10)) (b := 57) fk_X2_43 dX2_value_54 rfl e_j10 rfl ?_
    refine x_aload_n (i := 1) (b := 58) dX2_value_57 rfl rfl rfl ?_
    refine x_getI (v := gI h9 10 x1 0) (b := 61) fk_X2_73 dX2_value_58 (by decide) rfl rfl ?_
    obtain ⟨v11, h12, hq, hF⟩ := bd_e hF
    refine x_callV (as := [xi (gI h9 10 x1 0)]) (rest := [xi 2, xr 27 j4]) (b := 64) (c_X0_windAt (d + 1) j10 (gI h9 10 x1 0) h9 _ hL hq) dX2_value_61 cw_X2_134 ⟨_, _, rfl, Nat.le_of_ble_eq_true rfl⟩ rfl rfl (Nat.le_of_ble_eq_true rfl) ⟨Nat.le_refl _, Nat.le_refl _⟩ rfl (fun rv hh hp _ => ?_)
    obtain ⟨rfl, rfl, hL⟩ := hp
    refine x_iload_n (i := 3) (b := 65) dX2_value_64 rfl rfl rfl ?_
    refine x_icmp_ne (tgt := 72) (b := 68) dX2_value_65 (by decide) rfl (fun hc => ?_) (fun hc => ?_)
    · replace hF := br_F hc hF
      refine x_lconst (z := 0) (b := 73) dX2_value_72 rfl (by decide) rfl ?_
      exact x_dp (ls2 := [some (xr 2 0), some (xr 10 x1), some (xi x2), none, none, some (xi x5), some (xr 27 j4)]) ⟨rfl, rfl, rfl, rfl, rfl, trivial⟩ (hr_73 x1 x2 x5 j4 0 2 j4 h12 hL hF)
    · replace hF := br_T hc hF
      refine x_lconst (z := 1) (b := 69) dX2_value_68 rfl (by decide) rfl ?_
      refine x_goto (tgt := 73) dX2_value_69 (by decide) ?_
      exact x_dp (ls2 := [some (xr 2 0), some (xr 10 x1), some (xi x2), none, none, some (xi x5), some (xr 27 j4)]) ⟨rfl, rfl, rfl, rfl, rfl, trivial⟩ (hr_73 x1 x2 x5 j4 1 2 j4 h12 hL hF)
  · replace hF := br_T hc hF
    refine x_ldc2 (z := (-9223372036854775808)) (b := 14) dX2_value_11 kw_1110 (by decide) rfl ?_
    refine x_lreturn dX2_value_14 rfl ⟨Nat.le_refl _, Nat.le_refl _⟩ ?_
    cases hF
    exact ⟨rfl, rfl, hL⟩
set_option maxHeartbeats 4000000 in
set_option maxRecDepth 100000 in
theorem t_X2_value_1 (E : xE) (d : Nat) (rec : Rk) (r : Int × Hp) (x1 x2 x5 x6 y0 y1 y2 : Int) (h : Hp) (hL : Lay h) (hF : b_X2_value_1 rec x1 x2 x5 x6 y0 y1 y2 h = some r) : X E mX2_value (d + 3) (0, 0) (0, 0) 73 [some (xr 2 0), some (xr 10 x1), some (xi x2), none, none, some (xi x5), some (xr 27 x6)] [xl y0, xi y1, xr 27 y2] h (PoL r) := by
  unfold b_X2_value_1 at hF
  obtain ⟨hs, hF⟩ := ck_e hF
  have hs1 := hs
  refine x_last (b := 74) ak_27 dX2_value_73 hs1 rfl ?_
  obtain ⟨h1, e_h1, hF⟩ := lt_e hF
  refine x_hp (h2 := h1) e_h1 ?_
  replace hL : Lay h1 := by rw [← e_h1]; exact hL
  refine x_aload (i := 6) (b := 76) dX2_value_74 rfl rfl ?_
  refine x_iconst (n := 3) (b := 77) dX2_value_76 (by decide) rfl ?_
  refine x_aload_n (i := 1) (b := 78) dX2_value_77 rfl rfl rfl ?_
  refine x_getI (v := gI h1 10 x1 0) (b := 81) fk_X2_73 dX2_value_78 (by decide) rfl rfl ?_
  refine x_i2l (b := 82) dX2_value_81 rfl ?_
  obtain ⟨hs, hF⟩ := ck_e hF
  have hs1 := hs
  refine x_last (b := 83) ak_27 dX2_value_82 hs1 rfl ?_
  obtain ⟨h2, e_h2, hF⟩ := lt_e hF
  refine x_hp (h2 := h2) e_h2 ?_
  replace hL : Lay h2 := by rw [← e_h2]; exact hL
  refine x_aload (i := 6) (b := 85) dX2_value_83 rfl rfl ?_
  refine x_iconst (n := 4) (b := 86) dX2_value_85 (by decide) rfl ?_
  refine x_iload (i := 5) (b := 88) dX2_value_86 rfl rfl ?_
  refine x_i2l (b := 89) dX2_value_88 rfl ?_
  obtain ⟨hs, hF⟩ := ck_e hF
  have hs1 := hs
  refine x_last (b := 90) ak_27 dX2_value_89 hs1 rfl ?_
  obtain ⟨h3, e_h3, hF⟩ := lt_e hF
  refine x_hp (h2 := h3) e_h3 ?_
  replace hL : Lay h3 := by rw [← e_h3]; exact hL
  refine x_aload (i := 6) (b := 92) dX2_value_90 rfl rfl ?_
  refine x_iconst (n := 5) (b := 93) dX2_value_92 (by decide) rfl ?_
  refine x_aload_n (i := 1) (b := 94) dX2_value_93 rfl rfl rfl ?_
  refine x_getL (j := x1) (t := (57, 0, true)) (b := 97) fk_X2_137 dX2_value_94 rfl hL rfl rfl rfl ?_
  refine x_iload_n (i := 2) (b := 98) dX2_value_97 rfl rfl rfl ?_
  obtain ⟨hs, hF⟩ := ck_e hF
  refine x_iald (v := gI h3 57 x1 x2) (b := 99) ak_57 dX2_value_98 hs rfl rfl ?_
  refine x_i2l (b := 100) dX2_value_99 rfl ?_
  obtain ⟨hs, hF⟩ := ck_e hF
  have hs1 := hs
  refine x_last (b := 101) ak_27 dX2_value_100 hs1 rfl ?_
  obtain ⟨h4, e_h4, hF⟩ := lt_e hF
  refine x_hp (h2 := h4) e_h4 ?_
  replace hL : Lay h4 := by rw [← e_h4]; exact hL
  refine x_aload (i := 6) (b := 103) dX2_value_101 rfl rfl ?_
  refine x_bipush (n := 6) (b := 105) dX2_value_103 (by decide) rfl ?_
  refine x_aload_n (i := 1) (b := 106) dX2_value_105 rfl rfl rfl ?_
  refine x_getI (v := gI h4 10 x1 2) (b := 109) fk_X2_99 dX2_value_106 (by decide) rfl rfl ?_
  refine x_i2l (b := 110) dX2_value_109 rfl ?_
  obtain ⟨hs, hF⟩ := ck_e hF
  have hs1 := hs
  refine x_last (b := 111) ak_27 dX2_value_110 hs1 rfl ?_
  obtain ⟨h5, e_h5, hF⟩ := lt_e hF
  refine x_hp (h2 := h5) e_h5 ?_
  replace hL : Lay h5 := by rw [← e_h5]; exact hL
  refine x_aload_n (i := 0) (b := 112) dX2_value_111 rfl rfl rfl ?_
  obtain ⟨j6, e_j6, hF⟩ := rf_e hF
  refine x_getR (v := some (0, j6)) (b := 115) fk_X2_43 dX2_value_112 rfl e_j6 rfl ?_
  refine x_getL (j := j6) (t := (1, 0, true)) (b := 118) fk_X2_116 dX2_value_115 rfl hL rfl rfl rfl ?_
  refine x_aload_n (i := 0) (b := 119) dX2_value_118 rfl rfl rfl ?_
  obtain ⟨j7, e_j7, hF⟩ := rf_e hF
  refine x_getR (v := some (0, j7)) (b := 122) fk_X2_43 dX2_value_119 rfl e_j7 rfl ?_
  refine x_getL (j := j7) (t := (20, 0, true)) (b := 125) fk_X2_64 dX2_value_122 rfl hL rfl rfl rfl ?_
  refine x_iload_n (i := 2) (b := 126) dX2_value_125 rfl rfl rfl ?_
  obtain ⟨hs, hF⟩ := ck_e hF
  obtain ⟨j8, e_j8, hF⟩ := rf_e hF
  refine x_aaldM (v := some (4, j8)) (b := 127) ak_20 dX2_value_126 hs e_j8 rfl ?_
  refine x_getI (v := gI h5 4 j8 8) (b := 130) fk_X2_140 dX2_value_127 (by decide) rfl rfl ?_
  refine x_aload_n (i := 0) (b := 131) dX2_value_130 rfl rfl rfl ?_
  obtain ⟨j9, e_j9, hF⟩ := rf_e hF
  refine x_getR (v := some (0, j9)) (b := 134) fk_X2_43 dX2_value_131 rfl e_j9 rfl ?_
  refine x_getL (j := j9) (t := (20, 0, true)) (b := 137) fk_X2_64 dX2_value_134 rfl hL rfl rfl rfl ?_
  refine x_iload_n (i := 2) (b := 138) dX2_value_137 rfl rfl rfl ?_
  obtain ⟨hs, hF⟩ := ck_e hF
  obtain ⟨j10, e_j10, hF⟩ := rf_e hF
  refine x_aaldM (v := some (4, j10)) (b := 139) ak_20 dX2_value_138 hs e_j10 rfl ?_
  refine x_getI (v := gI h5 4 j10 9) (b := 142) fk_X2_143 dX2_value_139 (by decide) rfl rfl ?_
  obtain ⟨v11, h12, hq, hF⟩ := bd_e hF
  refine x_callV (as := [xi (gI h5 4 j8 8), xi (gI h5 4 j10 9)]) (rest := []) (b := 145) (c_X1_work d j6 (gI h5 4 j8 8) (gI h5 4 j10 9) h5 _ hL hq) dX2_value_142 cw_X2_146 ⟨_, _, rfl, Nat.le_of_ble_eq_true rfl⟩ rfl rfl (Nat.le_of_ble_eq_true rfl) ⟨Nat.le_refl _, Nat.le_refl _⟩ rfl (fun rv hh hp _ => ?_)
  obtain ⟨rfl, rfl, hL⟩ := hp
  refine x_lreturn dX2_value_145 rfl ⟨Nat.le_refl _, Nat.le_refl _⟩ ?_
  cases hF
  exact ⟨rfl, rfl, hL⟩
set_option maxHeartbeats 4000000 in
set_option maxRecDepth 100000 in
theorem u_X2_value (E : xE) (d : Nat) (r : Int × Hp) : ∀ n : Nat, (∀ (x1 x2 x3 x4 x5 : Int) (h : Hp), Lay h → g_X2_value n 0 [x1, x2, x3, x4, x5] h = some r → X E mX2_value (d + 3) (0, 0) (0, 0) 0 [some (xr 2 0), some (xr 10 x1), some (xi x2), some (xi x3), some (xi x4), some (xi x5), none] [] h (PoL r)) ∧ (∀ (x1 x2 x5 x6 y0 y1 y2 : Int) (h : Hp), Lay h → g_X2_value n 1 [x1, x2, x5, x6, y0, y1, y2] h = some r → X E mX2_value (d + 3) (0, 0) (0, 0) 73 [some (xr 2 0), some (xr 10 x1), some (xi x2), none, none, some (xi x5), some (xr 27 x6)] [xl y0, xi y1, xr 27 y2] h (PoL r)) := by
  intro n
  induction n with
  | zero => exact ⟨fun _ _ _ _ _ _ _ hF => no_e (r := r) hF, fun _ _ _ _ _ _ _ _ _ hF => no_e (r := r) hF⟩
  | succ n ih => exact ⟨fun x1 x2 x3 x4 x5 h hL hF => t_X2_value_0 E d (g_X2_value n) r ih.2 x1 x2 x3 x4 x5 h hL hF, fun x1 x2 x5 x6 y0 y1 y2 h hL hF => t_X2_value_1 E d (g_X2_value n) r  x1 x2 x5 x6 y0 y1 y2 h hL hF⟩
theorem c_X2_value (d : Nat) (x1 x2 x3 x4 x5 : Int) (h : Hp) (r : Int × Hp) (hL : Lay h) (hF : f_X2_value x1 x2 x3 x4 x5 h = some r) : Sp mX2_value (d + 3) (0, 0) [xr 2 0, xr 10 x1, xi x2, xi x3, xi x4, xi x5] h (PoL r) :=
  sp_of (by decide) rfl (Nat.le_of_ble_eq_true rfl) (ls := [some (xr 2 0), some (xr 10 x1), some (xi x2), some (xi x3), some (xi x4), some (xi x5), none]) rfl (fun E _ => (u_X2_value E d r FU).1 x1 x2 x3 x4 x5 h hL hF)
theorem dX2_wishOf_0 : decode cX2_wishOf 0 = .ok (.aload_n 0, 1) := by decide +kernel
theorem dX2_wishOf_1 : decode cX2_wishOf 1 = .ok (.getfield 40, 3) := by decide +kernel
theorem dX2_wishOf_4 : decode cX2_wishOf 4 = .ok (.iload_n 2, 1) := by decide +kernel
theorem dX2_wishOf_5 : decode cX2_wishOf 5 = .ok (.bipush 10, 2) := by decide +kernel
theorem dX2_wishOf_7 : decode cX2_wishOf 7 = .ok (.imul, 1) := by decide +kernel
theorem dX2_wishOf_8 : decode cX2_wishOf 8 = .ok (.iadd, 1) := by decide +kernel
theorem dX2_wishOf_9 : decode cX2_wishOf 9 = .ok (.iload_n 3, 1) := by decide +kernel
theorem dX2_wishOf_10 : decode cX2_wishOf 10 = .ok (.iadd, 1) := by decide +kernel
theorem dX2_wishOf_11 : decode cX2_wishOf 11 = .ok (.istore 4, 2) := by decide +kernel
theorem dX2_wishOf_13 : decode cX2_wishOf 13 = .ok (.aload_n 0, 1) := by decide +kernel
theorem dX2_wishOf_14 : decode cX2_wishOf 14 = .ok (.getfield 40, 3) := by decide +kernel
theorem dX2_wishOf_17 : decode cX2_wishOf 17 = .ok (.ifCond .lt 22, 3) := by decide +kernel
theorem dX2_wishOf_20 : decode cX2_wishOf 20 = .ok (.iload 4, 2) := by decide +kernel
theorem dX2_wishOf_22 : decode cX2_wishOf 22 = .ok (.ifCond .lt 17, 3) := by decide +kernel
theorem dX2_wishOf_25 : decode cX2_wishOf 25 = .ok (.iload 4, 2) := by decide +kernel
theorem dX2_wishOf_27 : decode cX2_wishOf 27 = .ok (.aload_n 0, 1) := by decide +kernel
theorem dX2_wishOf_28 : decode cX2_wishOf 28 = .ok (.getfield 37, 3) := by decide +kernel
theorem dX2_wishOf_31 : decode cX2_wishOf 31 = .ok (.arraylength, 1) := by decide +kernel
theorem dX2_wishOf_32 : decode cX2_wishOf 32 = .ok (.if_icmp .ge 7, 3) := by decide +kernel
theorem dX2_wishOf_35 : decode cX2_wishOf 35 = .ok (.iconst 1, 1) := by decide +kernel
theorem dX2_wishOf_36 : decode cX2_wishOf 36 = .ok (.goto 4, 3) := by decide +kernel
theorem dX2_wishOf_39 : decode cX2_wishOf 39 = .ok (.iconst 0, 1) := by decide +kernel
theorem dX2_wishOf_40 : decode cX2_wishOf 40 = .ok (.istore 5, 2) := by decide +kernel
theorem dX2_wishOf_42 : decode cX2_wishOf 42 = .ok (.iload 5, 2) := by decide +kernel
theorem dX2_wishOf_44 : decode cX2_wishOf 44 = .ok (.ifCond .eq 23, 3) := by decide +kernel
theorem dX2_wishOf_47 : decode cX2_wishOf 47 = .ok (.aload_n 0, 1) := by decide +kernel
theorem dX2_wishOf_48 : decode cX2_wishOf 48 = .ok (.getfield 37, 3) := by decide +kernel
theorem dX2_wishOf_51 : decode cX2_wishOf 51 = .ok (.iload 4, 2) := by decide +kernel
theorem dX2_wishOf_53 : decode cX2_wishOf 53 = .ok (.iaload, 1) := by decide +kernel
theorem dX2_wishOf_54 : decode cX2_wishOf 54 = .ok (.bipush (-2), 2) := by decide +kernel
theorem dX2_wishOf_56 : decode cX2_wishOf 56 = .ok (.if_icmp .eq 11, 3) := by decide +kernel
theorem dX2_wishOf_59 : decode cX2_wishOf 59 = .ok (.aload_n 0, 1) := by decide +kernel
theorem dX2_wishOf_60 : decode cX2_wishOf 60 = .ok (.getfield 37, 3) := by decide +kernel
theorem dX2_wishOf_63 : decode cX2_wishOf 63 = .ok (.iload 4, 2) := by decide +kernel
theorem dX2_wishOf_65 : decode cX2_wishOf 65 = .ok (.iaload, 1) := by decide +kernel
theorem dX2_wishOf_66 : decode cX2_wishOf 66 = .ok (.ireturn, 1) := by decide +kernel
theorem dX2_wishOf_67 : decode cX2_wishOf 67 = .ok (.iconst (-1), 1) := by decide +kernel
theorem dX2_wishOf_68 : decode cX2_wishOf 68 = .ok (.istore 6, 2) := by decide +kernel
theorem dX2_wishOf_70 : decode cX2_wishOf 70 = .ok (.lconst 0, 1) := by decide +kernel
theorem dX2_wishOf_71 : decode cX2_wishOf 71 = .ok (.lstore 7, 2) := by decide +kernel
theorem dX2_wishOf_73 : decode cX2_wishOf 73 = .ok (.iconst 0, 1) := by decide +kernel
theorem dX2_wishOf_74 : decode cX2_wishOf 74 = .ok (.istore 9, 2) := by decide +kernel
theorem dX2_wishOf_76 : decode cX2_wishOf 76 = .ok (.iload 9, 2) := by decide +kernel
theorem dX2_wishOf_78 : decode cX2_wishOf 78 = .ok (.iconst 4, 1) := by decide +kernel
theorem dX2_wishOf_79 : decode cX2_wishOf 79 = .ok (.if_icmp .ge 94, 3) := by decide +kernel
theorem dX2_wishOf_82 : decode cX2_wishOf 82 = .ok (.aload_n 0, 1) := by decide +kernel
theorem dX2_wishOf_83 : decode cX2_wishOf 83 = .ok (.getfield 43, 3) := by decide +kernel
theorem dX2_wishOf_86 : decode cX2_wishOf 86 = .ok (.getfield 124, 3) := by decide +kernel
theorem dX2_wishOf_89 : decode cX2_wishOf 89 = .ok (.aload_n 1, 1) := by decide +kernel
theorem dX2_wishOf_90 : decode cX2_wishOf 90 = .ok (.getfield 157, 3) := by decide +kernel
theorem dX2_wishOf_93 : decode cX2_wishOf 93 = .ok (.iload 9, 2) := by decide +kernel
theorem dX2_wishOf_95 : decode cX2_wishOf 95 = .ok (.invokevirtual 160, 3) := by decide +kernel
theorem dX2_wishOf_98 : decode cX2_wishOf 98 = .ok (.istore 10, 2) := by decide +kernel
theorem dX2_wishOf_100 : decode cX2_wishOf 100 = .ok (.aload_n 0, 1) := by decide +kernel
theorem dX2_wishOf_101 : decode cX2_wishOf 101 = .ok (.getfield 43, 3) := by decide +kernel
theorem dX2_wishOf_104 : decode cX2_wishOf 104 = .ok (.getfield 124, 3) := by decide +kernel
theorem dX2_wishOf_107 : decode cX2_wishOf 107 = .ok (.iload 10, 2) := by decide +kernel
theorem dX2_wishOf_109 : decode cX2_wishOf 109 = .ok (.invokevirtual 163, 3) := by decide +kernel
theorem dX2_wishOf_112 : decode cX2_wishOf 112 = .ok (.ifCond .eq 55, 3) := by decide +kernel
theorem dX2_wishOf_115 : decode cX2_wishOf 115 = .ok (.aload_n 0, 1) := by decide +kernel
theorem dX2_wishOf_116 : decode cX2_wishOf 116 = .ok (.aload_n 1, 1) := by decide +kernel
theorem dX2_wishOf_117 : decode cX2_wishOf 117 = .ok (.iload_n 2, 1) := by decide +kernel
theorem dX2_wishOf_118 : decode cX2_wishOf 118 = .ok (.iload 9, 2) := by decide +kernel
theorem dX2_wishOf_120 : decode cX2_wishOf 120 = .ok (.iload 10, 2) := by decide +kernel
theorem dX2_wishOf_122 : decode cX2_wishOf 122 = .ok (.iload_n 3, 1) := by decide +kernel
theorem dX2_wishOf_123 : decode cX2_wishOf 123 = .ok (.invokevirtual 166, 3) := by decide +kernel
theorem dX2_wishOf_126 : decode cX2_wishOf 126 = .ok (.lstore 11, 2) := by decide +kernel
theorem dX2_wishOf_128 : decode cX2_wishOf 128 = .ok (.lload 11, 2) := by decide +kernel
theorem dX2_wishOf_130 : decode cX2_wishOf 130 = .ok (.ldc2_w 114, 3) := by decide +kernel
theorem dX2_wishOf_133 : decode cX2_wishOf 133 = .ok (.lcmp, 1) := by decide +kernel
theorem dX2_wishOf_134 : decode cX2_wishOf 134 = .ok (.ifCond .ne 7, 3) := by decide +kernel
theorem dX2_wishOf_137 : decode cX2_wishOf 137 = .ok (.lconst 0, 1) := by decide +kernel
theorem dX2_wishOf_138 : decode cX2_wishOf 138 = .ok (.goto 5, 3) := by decide +kernel
theorem dX2_wishOf_141 : decode cX2_wishOf 141 = .ok (.lload 11, 2) := by decide +kernel
theorem dX2_wishOf_143 : decode cX2_wishOf 143 = .ok (.lstore 11, 2) := by decide +kernel
theorem dX2_wishOf_145 : decode cX2_wishOf 145 = .ok (.iload 6, 2) := by decide +kernel
theorem dX2_wishOf_147 : decode cX2_wishOf 147 = .ok (.iconst (-1), 1) := by decide +kernel
theorem dX2_wishOf_148 : decode cX2_wishOf 148 = .ok (.if_icmp .eq 11, 3) := by decide +kernel
theorem dX2_wishOf_151 : decode cX2_wishOf 151 = .ok (.lload 11, 2) := by decide +kernel
theorem dX2_wishOf_153 : decode cX2_wishOf 153 = .ok (.lload 7, 2) := by decide +kernel
theorem dX2_wishOf_155 : decode cX2_wishOf 155 = .ok (.lcmp, 1) := by decide +kernel
theorem dX2_wishOf_156 : decode cX2_wishOf 156 = .ok (.ifCond .le 11, 3) := by decide +kernel
theorem dX2_wishOf_159 : decode cX2_wishOf 159 = .ok (.iload 9, 2) := by decide +kernel
theorem dX2_wishOf_161 : decode cX2_wishOf 161 = .ok (.istore 6, 2) := by decide +kernel
theorem dX2_wishOf_163 : decode cX2_wishOf 163 = .ok (.lload 11, 2) := by decide +kernel
theorem dX2_wishOf_165 : decode cX2_wishOf 165 = .ok (.lstore 7, 2) := by decide +kernel
theorem dX2_wishOf_167 : decode cX2_wishOf 167 = .ok (.iinc 9 1, 3) := by decide +kernel
theorem dX2_wishOf_170 : decode cX2_wishOf 170 = .ok (.goto (-94), 3) := by decide +kernel
theorem dX2_wishOf_173 : decode cX2_wishOf 173 = .ok (.iload 5, 2) := by decide +kernel
theorem dX2_wishOf_175 : decode cX2_wishOf 175 = .ok (.ifCond .eq 12, 3) := by decide +kernel
theorem dX2_wishOf_178 : decode cX2_wishOf 178 = .ok (.aload_n 0, 1) := by decide +kernel
theorem dX2_wishOf_179 : decode cX2_wishOf 179 = .ok (.getfield 37, 3) := by decide +kernel
theorem dX2_wishOf_182 : decode cX2_wishOf 182 = .ok (.iload 4, 2) := by decide +kernel
theorem dX2_wishOf_184 : decode cX2_wishOf 184 = .ok (.iload 6, 2) := by decide +kernel
theorem dX2_wishOf_186 : decode cX2_wishOf 186 = .ok (.iastore, 1) := by decide +kernel
theorem dX2_wishOf_187 : decode cX2_wishOf 187 = .ok (.iload 6, 2) := by decide +kernel
theorem dX2_wishOf_189 : decode cX2_wishOf 189 = .ok (.ireturn, 1) := by decide +kernel
noncomputable def b_X2_wishOf_0 (rec : Rk) (x1 x2 x3 : Int) (h : Hp) : Option (Int × Hp) :=
  ck (-2147483648 ≤ x2 * 10 ∧ x2 * 10 < 2147483648) <|
  ck (-2147483648 ≤ (gI h 2 0 10) + (x2 * 10) ∧ (gI h 2 0 10) + (x2 * 10) < 2147483648) <|
  ck (-2147483648 ≤ ((gI h 2 0 10) + (x2 * 10)) + x3 ∧ ((gI h 2 0 10) + (x2 * 10)) + x3 < 2147483648) <|
  lt (((gI h 2 0 10) + (x2 * 10)) + x3) fun z1 =>
  if (gI h 2 0 10) < 0 then (
    rec 1 [x1, x2, x3, z1] h
  ) else (
    if z1 < 0 then (
      rec 1 [x1, x2, x3, z1] h
    ) else (
      if 270 ≤ z1 then (
        rec 1 [x1, x2, x3, z1] h
      ) else (
        rec 2 [x1, x2, x3, z1, 1] h
      )
    )
  )
noncomputable def b_X2_wishOf_1 (rec : Rk) (x1 x2 x3 x4 : Int) (h : Hp) : Option (Int × Hp) :=
  rec 2 [x1, x2, x3, x4, 0] h
noncomputable def b_X2_wishOf_2 (rec : Rk) (x1 x2 x3 x4 y0 : Int) (h : Hp) : Option (Int × Hp) :=
  if y0 = 0 then (
    rec 3 [x1, x2, x3, x4, y0] h
  ) else (
    ck (0 ≤ x4 ∧ x4 < 270) <|
    if (gI h 33 0 x4) = (-2) then (
      rec 3 [x1, x2, x3, x4, y0] h
    ) else (
      ck (0 ≤ x4 ∧ x4 < 270) <|
      some (gI h 33 0 x4, h)
    )
  )
noncomputable def b_X2_wishOf_3 (rec : Rk) (x1 x2 x3 x4 x5 : Int) (h : Hp) : Option (Int × Hp) :=
  rec 4 [x1, x2, x3, x4, x5, (-1), 0, 0] h
noncomputable def b_X2_wishOf_4 (rec : Rk) (x1 x2 x3 x4 x5 x6 x7 x9 : Int) (h : Hp) : Option (Int × Hp) :=
  if 4 ≤ x9 then (
    if x5 = 0 then (
      some (x6, h)
    ) else (
      ck (0 ≤ x4 ∧ x4 < 270) <|
      lt (sI h 33 0 x4 x6) fun h1 =>
      some (x6, h1)
    )
  ) else (
    rf (gR h 2 0 0) 0 fun j2 =>
    bd (f_X9_step j2 (gI h 10 x1 1) x9 h) fun v3 h4 =>
    rf (gR h4 2 0 0) 0 fun j5 =>
    bd (f_X9_isWater j5 v3 h4) fun v6 h7 =>
    if v6 = 0 then (
      rec 7 [x1, x2, x3, x4, x5, x6, x7, x9] h7
    ) else (
      bd (f_X2_value x1 x2 x9 v3 x3 h7) fun v8 h9 =>
      if (lc v8 (-9223372036854775808)) = 0 then (
        rec 5 [x1, x2, x3, x4, x5, x6, x7, x9, 0] h9
      ) else (
        rec 5 [x1, x2, x3, x4, x5, x6, x7, x9, v8] h9
      )
    )
  )
noncomputable def b_X2_wishOf_5 (rec : Rk) (x1 x2 x3 x4 x5 x6 x7 x9 y0 : Int) (h : Hp) : Option (Int × Hp) :=
  if x6 = (-1) then (
    rec 6 [x1, x2, x3, x4, x5, x9, y0] h
  ) else (
    if (lc y0 x7) ≤ 0 then (
      rec 7 [x1, x2, x3, x4, x5, x6, x7, x9] h
    ) else (
      rec 6 [x1, x2, x3, x4, x5, x9, y0] h
    )
  )
noncomputable def b_X2_wishOf_6 (rec : Rk) (x1 x2 x3 x4 x5 x9 x11 : Int) (h : Hp) : Option (Int × Hp) :=
  rec 7 [x1, x2, x3, x4, x5, x9, x11, x9] h
noncomputable def b_X2_wishOf_7 (rec : Rk) (x1 x2 x3 x4 x5 x6 x7 x9 : Int) (h : Hp) : Option (Int × Hp) :=
  ck (-2147483648 ≤ x9 + 1 ∧ x9 + 1 < 2147483648) <|
  rec 4 [x1, x2, x3, x4, x5, x6, x7, x9 + 1] h
noncomputable def g_X2_wishOf (n : Nat) : Rk := Nat.rec (motive := fun _ => Rk) (fun _ _ _ => none) (fun _ rec k l h => if k = 0 then b_X2_wishOf_0 rec (l.getD 0 0) (l.getD 1 0) (l.getD 2 0) h else if k = 1 then b_X2_wishOf_1 rec (l.getD 0 0) (l.getD 1 0) (l.getD 2 0) (l.getD 3 0) h else if k = 2 then b_X2_wishOf_2 rec (l.getD 0 0) (l.getD 1 0) (l.getD 2 0) (l.getD 3 0) (l.getD 4 0) h else if k = 3 then b_X2_wishOf_3 rec (l.getD 0 0) (l.getD 1 0) (l.getD 2 0) (l.getD 3 0) (l.getD 4 0) h else if k = 4 then b_X2_wishOf_4 rec (l.getD 0 0) (l.getD 1 0) (l.getD 2 0) (l.getD 3 0) (l.getD 4 0) (l.getD 5 0) (l.getD 6 0) (l.getD 7 0) h else if k = 5 then b_X2_wishOf_5 rec (l.getD 0 0) (l.getD 1 0) (l.getD 2 0) (l.getD 3 0) (l.getD 4 0) (l.getD 5 0) (l.getD 6 0) (l.getD 7 0) (l.getD 8 0) h else if k = 6 then b_X2_wishOf_6 rec (l.getD 0 0) (l.getD 1 0) (l.getD 2 0) (l.getD 3 0) (l.getD 4 0) (l.getD 5 0) (l.getD 6 0) h else if k = 7 then b_X2_wishOf_7 rec (l.getD 0 0) (l.getD 1 0) (l.getD 2 0) (l.getD 3 0) (l.getD 4 0) (l.getD 5 0) (l.getD 6 0) (l.getD 7 0) h else none) n
noncomputable def f_X2_wishOf (x1 x2 x3 : Int) (h : Hp) : Option (Int × Hp) := g_X2_wishOf FU 0 [x1, x2, x3] h
set_option maxHeartbeats 4000000 in
set_option maxRecDepth 100000 in
theorem t_X2_wishOf_0 (E : xE) (d : Nat) (rec : Rk) (r : Int × Hp) (hr_39 : ∀ (x1 x2 x3 x4 : Int) (h : Hp), Lay h → rec 1 [x1, x2, x3, x4] h = some r → X E mX2_wishOf (d + 4) (0, 0) (0, 0) 39 [some (xr 2 0), some (xr 10 x1), some (xi x2), some (xi x3), some (xi x4), none, none, none, none, none, none, none, none] [] h (PoI r)) (hr_40 : ∀ (x1 x2 x3 x4 y0 : Int) (h : Hp), Lay h → rec 2 [x1, x2, x3, x4, y0] h = some r → X E mX2_wishOf (d + 4) (0, 0) (0, 0) 40 [some (xr 2 0), some (xr 10 x1), some (xi x2), some (xi x3), some (xi x4), none, none, none, none, none, none, none, none] [xi y0] h (PoI r)) (x1 x2 x3 : Int) (h : Hp) (hL : Lay h) (hF : b_X2_wishOf_0 rec x1 x2 x3 h = some r) : X E mX2_wishOf (d + 4) (0, 0) (0, 0) 0 [some (xr 2 0), some (xr 10 x1), some (xi x2), some (xi x3), none, none, none, none, none, none, none, none, none] [] h (PoI r) := by
  unfold b_X2_wishOf_0 at hF
  refine x_aload_n (i := 0) (b := 1) dX2_wishOf_0 rfl rfl rfl ?_
  refine x_getI (v := gI h 2 0 10) (b := 4) fk_X2_40 dX2_wishOf_1 (by decide) rfl rfl ?_
  refine x_iload_n (i := 2) (b := 5) dX2_wishOf_4 rfl rfl rfl ?_
  refine x_bipush (n := 10) (b := 7) dX2_wishOf_5 (by decide) rfl ?_
  obtain ⟨hs, hF⟩ := ck_e hF
  refine x_imul (b := 8) dX2_wishOf_7 hs rfl ?_
  obtain ⟨hs, hF⟩ := ck_e hF
  refine x_iadd (b := 9) dX2_wishOf_8 hs rfl ?_
  refine x_iload_n (i := 3) (b := 10) dX2_wishOf_9 rfl rfl rfl ?_
  obtain ⟨hs, hF⟩ := ck_e hF
  refine x_iadd (b := 11) dX2_wishOf_10 hs rfl ?_
  obtain ⟨z1, e_z1, hF⟩ := lt_e hF
  refine x_eq (y := z1) e_z1 ?_
  refine x_istore (i := 4) (b := 13) (ls2 := [some (xr 2 0), some (xr 10 x1), some (xi x2), some (xi x3), some (xi z1), none, none, none, none, none, none, none, none]) dX2_wishOf_11 (Nat.le_of_ble_eq_true rfl) rfl rfl ?_
  refine x_aload_n (i := 0) (b := 14) dX2_wishOf_13 rfl rfl rfl ?_
  refine x_getI (v := gI h 2 0 10) (b := 17) fk_X2_40 dX2_wishOf_14 (by decide) rfl rfl ?_
  refine x_if_lt (tgt := 39) (b := 20) dX2_wishOf_17 (by decide) rfl (fun hc => ?_) (fun hc => ?_)
  · replace hF := br_T hc hF
    exact x_dp (ls2 := [some (xr 2 0), some (xr 10 x1), some (xi x2), some (xi x3), some (xi z1), none, none, none, none, none, none, none, none]) ⟨rfl, rfl, rfl, rfl, rfl, trivial⟩ (hr_39 x1 x2 x3 z1 h hL hF)
  · replace hF := br_F hc hF
    refine x_iload (i := 4) (b := 22) dX2_wishOf_20 rfl rfl ?_
    refine x_if_lt (tgt := 39) (b := 25) dX2_wishOf_22 (by decide) rfl (fun hc => ?_) (fun hc => ?_)
    · replace hF := br_T hc hF
      exact x_dp (ls2 := [some (xr 2 0), some (xr 10 x1), some (xi x2), some (xi x3), some (xi z1), none, none, none, none, none, none, none, none]) ⟨rfl, rfl, rfl, rfl, rfl, trivial⟩ (hr_39 x1 x2 x3 z1 h hL hF)
    · replace hF := br_F hc hF
      refine x_iload (i := 4) (b := 27) dX2_wishOf_25 rfl rfl ?_
      refine x_aload_n (i := 0) (b := 28) dX2_wishOf_27 rfl rfl rfl ?_
      refine x_getL (j := 0) (t := (33, 0, true)) (b := 31) fk_X2_37 dX2_wishOf_28 rfl hL rfl rfl rfl ?_
      refine x_alen (kind := 0) (ct := 0) (b := 32) ak_33 (by decide) dX2_wishOf_31 rfl ?_
      refine x_eq (y := 270) rfl ?_
      refine x_icmp_ge (tgt := 39) (b := 35) dX2_wishOf_32 (by decide) rfl (fun hc => ?_) (fun hc => ?_)
      · replace hF := br_T hc hF
        exact x_dp (ls2 := [some (xr 2 0), some (xr 10 x1), some (xi x2), some (xi x3), some (xi z1), none, none, none, none, none, none, none, none]) ⟨rfl, rfl, rfl, rfl, rfl, trivial⟩ (hr_39 x1 x2 x3 z1 h hL hF)
      · replace hF := br_F hc hF
        refine x_iconst (n := 1) (b := 36) dX2_wishOf_35 (by decide) rfl ?_
        refine x_goto (tgt := 40) dX2_wishOf_36 (by decide) ?_
        exact x_dp (ls2 := [some (xr 2 0), some (xr 10 x1), some (xi x2), some (xi x3), some (xi z1), none, none, none, none, none, none, none, none]) ⟨rfl, rfl, rfl, rfl, rfl, trivial⟩ (hr_40 x1 x2 x3 z1 1 h hL hF)
set_option maxHeartbeats 4000000 in
set_option maxRecDepth 100000 in
theorem t_X2_wishOf_1 (E : xE) (d : Nat) (rec : Rk) (r : Int × Hp) (hr_40 : ∀ (x1 x2 x3 x4 y0 : Int) (h : Hp), Lay h → rec 2 [x1, x2, x3, x4, y0] h = some r → X E mX2_wishOf (d + 4) (0, 0) (0, 0) 40 [some (xr 2 0), some (xr 10 x1), some (xi x2), some (xi x3), some (xi x4), none, none, none, none, none, none, none, none] [xi y0] h (PoI r)) (x1 x2 x3 x4 : Int) (h : Hp) (hL : Lay h) (hF : b_X2_wishOf_1 rec x1 x2 x3 x4 h = some r) : X E mX2_wishOf (d + 4) (0, 0) (0, 0) 39 [some (xr 2 0), some (xr 10 x1), some (xi x2), some (xi x3), some (xi x4), none, none, none, none, none, none, none, none] [] h (PoI r) := by
  unfold b_X2_wishOf_1 at hF
  refine x_iconst (n := 0) (b := 40) dX2_wishOf_39 (by decide) rfl ?_
  exact x_dp (ls2 := [some (xr 2 0), some (xr 10 x1), some (xi x2), some (xi x3), some (xi x4), none, none, none, none, none, none, none, none]) ⟨rfl, rfl, rfl, rfl, rfl, trivial⟩ (hr_40 x1 x2 x3 x4 0 h hL hF)
set_option maxHeartbeats 4000000 in
set_option maxRecDepth 100000 in
theorem t_X2_wishOf_2 (E : xE) (d : Nat) (rec : Rk) (r : Int × Hp) (hr_67 : ∀ (x1 x2 x3 x4 x5 : Int) (h : Hp), Lay h → rec 3 [x1, x2, x3, x4, x5] h = some r → X E mX2_wishOf (d + 4) (0, 0) (0, 0) 67 [some (xr 2 0), some (xr 10 x1), some (xi x2), some (xi x3), some (xi x4), some (xi x5), none, none, none, none, none, none, none] [] h (PoI r)) (x1 x2 x3 x4 y0 : Int) (h : Hp) (hL : Lay h) (hF : b_X2_wishOf_2 rec x1 x2 x3 x4 y0 h = some r) : X E mX2_wishOf (d + 4) (0, 0) (0, 0) 40 [some (xr 2 0), some (xr 10 x1), some (xi x2), some (xi x3), some (xi x4), none, none, none, none, none, none, none, none] [xi y0] h (PoI r) := by
  unfold b_X2_wishOf_2 at hF
  refine x_istore (i := 5) (b := 42) (ls2 := [some (xr 2 0), some (xr 10 x1), some (xi x2), some (xi x3), some (xi x4), some (xi y0), none, none, none, none, none, none, none]) dX2_wishOf_40 (Nat.le_of_ble_eq_true rfl) rfl rfl ?_
  refine x_iload (i := 5) (b := 44) dX2_wishOf_42 rfl rfl ?_
  refine x_if_eq (tgt := 67) (b := 47) dX2_wishOf_44 (by decide) rfl (fun hc => ?_) (fun hc => ?_)
  · replace hF := br_T hc hF
    exact x_dp (ls2 := [some (xr 2 0), some (xr 10 x1), some (xi x2), some (xi x3), some (xi x4), some (xi y0), none, none, none, none, none, none, none]) ⟨rfl, rfl, rfl, rfl, rfl, rfl, trivial⟩ (hr_67 x1 x2 x3 x4 y0 h hL hF)
  · replace hF := br_F hc hF
    refine x_aload_n (i := 0) (b := 48) dX2_wishOf_47 rfl rfl rfl ?_
    refine x_getL (j := 0) (t := (33, 0, true)) (b := 51) fk_X2_37 dX2_wishOf_48 rfl hL rfl rfl rfl ?_
    refine x_iload (i := 4) (b := 53) dX2_wishOf_51 rfl rfl ?_
    obtain ⟨hs, hF⟩ := ck_e hF
    refine x_iald (v := gI h 33 0 x4) (b := 54) ak_33 dX2_wishOf_53 hs rfl rfl ?_
    refine x_bipush (n := (-2)) (b := 56) dX2_wishOf_54 (by decide) rfl ?_
    refine x_icmp_eq (tgt := 67) (b := 59) dX2_wishOf_56 (by decide) rfl (fun hc => ?_) (fun hc => ?_)
    · replace hF := br_T hc hF
      exact x_dp (ls2 := [some (xr 2 0), some (xr 10 x1), some (xi x2), some (xi x3), some (xi x4), some (xi y0), none, none, none, none, none, none, none]) ⟨rfl, rfl, rfl, rfl, rfl, rfl, trivial⟩ (hr_67 x1 x2 x3 x4 y0 h hL hF)
    · replace hF := br_F hc hF
      refine x_aload_n (i := 0) (b := 60) dX2_wishOf_59 rfl rfl rfl ?_
      refine x_getL (j := 0) (t := (33, 0, true)) (b := 63) fk_X2_37 dX2_wishOf_60 rfl hL rfl rfl rfl ?_
      refine x_iload (i := 4) (b := 65) dX2_wishOf_63 rfl rfl ?_
      obtain ⟨hs, hF⟩ := ck_e hF
      refine x_iald (v := gI h 33 0 x4) (b := 66) ak_33 dX2_wishOf_65 hs rfl rfl ?_
      refine x_ireturn dX2_wishOf_66 rfl ⟨Nat.le_refl _, Nat.le_refl _⟩ ?_
      cases hF
      exact ⟨rfl, rfl, hL⟩
set_option maxHeartbeats 4000000 in
set_option maxRecDepth 100000 in
theorem t_X2_wishOf_3 (E : xE) (d : Nat) (rec : Rk) (r : Int × Hp) (hr_76 : ∀ (x1 x2 x3 x4 x5 x6 x7 x9 : Int) (h : Hp), Lay h → rec 4 [x1, x2, x3, x4, x5, x6, x7, x9] h = some r → X E mX2_wishOf (d + 4) (0, 0) (0, 0) 76 [some (xr 2 0), some (xr 10 x1), some (xi x2), some (xi x3), some (xi x4), some (xi x5), some (xi x6), some (xl x7), none, some (xi x9), none, none, none] [] h (PoI r)) (x1 x2 x3 x4 x5 : Int) (h : Hp) (hL : Lay h) (hF : b_X2_wishOf_3 rec x1 x2 x3 x4 x5 h = some r) : X E mX2_wishOf (d + 4) (0, 0) (0, 0) 67 [some (xr 2 0), some (xr 10 x1), some (xi x2), some (xi x3), some (xi x4), some (xi x5), none, none, none, none, none, none, none] [] h (PoI r) := by
  unfold b_X2_wishOf_3 at hF
  refine x_iconst (n := (-1)) (b := 68) dX2_wishOf_67 (by decide) rfl ?_
  refine x_istore (i := 6) (b := 70) (ls2 := [some (xr 2 0), some (xr 10 x1), some (xi x2), some (xi x3), some (xi x4), some (xi x5), some (xi (-1)), none, none, none, none, none, none]) dX2_wishOf_68 (Nat.le_of_ble_eq_true rfl) rfl rfl ?_
  refine x_lconst (z := 0) (b := 71) dX2_wishOf_70 rfl (by decide) rfl ?_
  refine x_lstore (i := 7) (b := 73) (ls2 := [some (xr 2 0), some (xr 10 x1), some (xi x2), some (xi x3), some (xi x4), some (xi x5), some (xi (-1)), some (xl 0), none, none, none, none, none]) dX2_wishOf_71 (Nat.le_of_ble_eq_true rfl) rfl rfl ?_
  refine x_iconst (n := 0) (b := 74) dX2_wishOf_73 (by decide) rfl ?_
  refine x_istore (i := 9) (b := 76) (ls2 := [some (xr 2 0), some (xr 10 x1), some (xi x2), some (xi x3), some (xi x4), some (xi x5), some (xi (-1)), some (xl 0), none, some (xi 0), none, none, none]) dX2_wishOf_74 (Nat.le_of_ble_eq_true rfl) rfl rfl ?_
  exact x_dp (ls2 := [some (xr 2 0), some (xr 10 x1), some (xi x2), some (xi x3), some (xi x4), some (xi x5), some (xi (-1)), some (xl 0), none, some (xi 0), none, none, none]) ⟨rfl, rfl, rfl, rfl, rfl, rfl, rfl, rfl, rfl, trivial⟩ (hr_76 x1 x2 x3 x4 x5 (-1) 0 0 h hL hF)
set_option maxHeartbeats 4000000 in
set_option maxRecDepth 100000 in
theorem t_X2_wishOf_4 (E : xE) (d : Nat) (rec : Rk) (r : Int × Hp) (hr_143 : ∀ (x1 x2 x3 x4 x5 x6 x7 x9 y0 : Int) (h : Hp), Lay h → rec 5 [x1, x2, x3, x4, x5, x6, x7, x9, y0] h = some r → X E mX2_wishOf (d + 4) (0, 0) (0, 0) 143 [some (xr 2 0), some (xr 10 x1), some (xi x2), some (xi x3), some (xi x4), some (xi x5), some (xi x6), some (xl x7), none, some (xi x9), none, none, none] [xl y0] h (PoI r)) (hr_167 : ∀ (x1 x2 x3 x4 x5 x6 x7 x9 : Int) (h : Hp), Lay h → rec 7 [x1, x2, x3, x4, x5, x6, x7, x9] h = some r → X E mX2_wishOf (d + 4) (0, 0) (0, 0) 167 [some (xr 2 0), some (xr 10 x1), some (xi x2), some (xi x3), some (xi x4), some (xi x5), some (xi x6), some (xl x7), none, some (xi x9), none, none, none] [] h (PoI r)) (x1 x2 x3 x4 x5 x6 x7 x9 : Int) (h : Hp) (hL : Lay h) (hF : b_X2_wishOf_4 rec x1 x2 x3 x4 x5 x6 x7 x9 h = some r) : X E mX2_wishOf (d + 4) (0, 0) (0, 0) 76 [some (xr 2 0), some (xr 10 x1), some (xi x2), some (xi x3), some (xi x4), some (xi x5), some (xi x6), some (xl x7), none, some (xi x9), none, none, none] [] h (PoI r) := by
  unfold b_X2_wishOf_4 at hF
  refine x_iload (i := 9) (b := 78) dX2_wishOf_76 rfl rfl ?_
  refine x_iconst (n := 4) (b := 79) dX2_wishOf_78 (by decide) rfl ?_
  refine x_icmp_ge (tgt := 173) (b := 82) dX2_wishOf_79 (by decide) rfl (fun hc => ?_) (fun hc => ?_)
  · replace hF := br_T hc hF
    refine x_iload (i := 5) (b := 175) dX2_wishOf_173 rfl rfl ?_
    refine x_if_eq (tgt := 187) (b := 178) dX2_wishOf_175 (by decide) rfl (fun hc => ?_) (fun hc => ?_)
    · replace hF := br_T hc hF
      refine x_iload (i := 6) (b := 189) dX2_wishOf_187 rfl rfl ?_
      refine x_ireturn dX2_wishOf_189 rfl ⟨Nat.le_refl _, Nat.le_refl _⟩ ?_
      cases hF
      exact ⟨rfl, rfl, hL⟩
    · replace hF := br_F hc hF
      refine x_aload_n (i := 0) (b := 179) dX2_wishOf_178 rfl rfl rfl ?_
      refine x_getL (j := 0) (t := (33, 0, true)) (b := 182) fk_X2_37 dX2_wishOf_179 rfl hL rfl rfl rfl ?_
      refine x_iload (i := 4) (b := 184) dX2_wishOf_182 rfl rfl ?_
      refine x_iload (i := 6) (b := 186) dX2_wishOf_184 rfl rfl ?_
      obtain ⟨hs, hF⟩ := ck_e hF
      have hs1 := hs
      refine x_iast (b := 187) ak_33 dX2_wishOf_186 hs1 rfl ?_
      obtain ⟨h1, e_h1, hF⟩ := lt_e hF
      refine x_hp (h2 := h1) e_h1 ?_
      replace hL : Lay h1 := by rw [← e_h1]; exact hL
      refine x_iload (i := 6) (b := 189) dX2_wishOf_187 rfl rfl ?_
      refine x_ireturn dX2_wishOf_189 rfl ⟨Nat.le_refl _, Nat.le_refl _⟩ ?_
      cases hF
      exact ⟨rfl, rfl, hL⟩
  · replace hF := br_F hc hF
    refine x_aload_n (i := 0) (b := 83) dX2_wishOf_82 rfl rfl rfl ?_
    obtain ⟨j2, e_j2, hF⟩ := rf_e hF
    refine x_getR (v := some (0, j2)) (b := 86) fk_X2_43 dX2_wishOf_83 rfl e_j2 rfl ?_
    refine x_getL (j := j2) (t := (9, 0, true)) (b := 89) fk_X2_124 dX2_wishOf_86 rfl hL rfl rfl rfl ?_
    refine x_aload_n (i := 1) (b := 90) dX2_wishOf_89 rfl rfl rfl ?_
    refine x_getI (v := gI h 10 x1 1) (b := 93) fk_X2_157 dX2_wishOf_90 (by decide) rfl rfl ?_
    refine x_iload (i := 9) (b := 95) dX2_wishOf_93 rfl rfl ?_
    obtain ⟨v3, h4, hq, hF⟩ := bd_e hF
    refine x_callV (as := [xi (gI h 10 x1 1), xi x9]) (rest := []) (b := 98) (c_X9_step (d + 1) j2 (gI h 10 x1 1) x9 h _ hL hq) dX2_wishOf_95 cw_X2_160 ⟨_, _, rfl, Nat.le_of_ble_eq_true rfl⟩ rfl rfl (Nat.le_of_ble_eq_true rfl) ⟨Nat.le_refl _, Nat.le_refl _⟩ rfl (fun rv hh hp _ => ?_)
    obtain ⟨rfl, rfl, hL⟩ := hp
    refine x_istore (i := 10) (b := 100) (ls2 := [some (xr 2 0), some (xr 10 x1), some (xi x2), some (xi x3), some (xi x4), some (xi x5), some (xi x6), some (xl x7), none, some (xi x9), some (xi v3), none, none]) dX2_wishOf_98 (Nat.le_of_ble_eq_true rfl) rfl rfl ?_
    refine x_aload_n (i := 0) (b := 101) dX2_wishOf_100 rfl rfl rfl ?_
    obtain ⟨j5, e_j5, hF⟩ := rf_e hF
    refine x_getR (v := some (0, j5)) (b := 104) fk_X2_43 dX2_wishOf_101 rfl e_j5 rfl ?_
    refine x_getL (j := j5) (t := (9, 0, true)) (b := 107) fk_X2_124 dX2_wishOf_104 rfl hL rfl rfl rfl ?_
    refine x_iload (i := 10) (b := 109) dX2_wishOf_107 rfl rfl ?_
    obtain ⟨v6, h7, hq, hF⟩ := bd_e hF
    refine x_callV (as := [xi v3]) (rest := []) (b := 112) (c_X9_isWater (d + 1) j5 v3 h4 _ hL hq) dX2_wishOf_109 cw_X2_163 ⟨_, _, rfl, Nat.le_of_ble_eq_true rfl⟩ rfl rfl (Nat.le_of_ble_eq_true rfl) ⟨Nat.le_refl _, Nat.le_refl _⟩ rfl (fun rv hh hp _ => ?_)
    obtain ⟨rfl, rfl, hL⟩ := hp
    refine x_if_eq (tgt := 167) (b := 115) dX2_wishOf_112 (by decide) rfl (fun hc => ?_) (fun hc => ?_)
    · replace hF := br_T hc hF
      exact x_dp (ls2 := [some (xr 2 0), some (xr 10 x1), some (xi x2), some (xi x3), some (xi x4), some (xi x5), some (xi x6), some (xl x7), none, some (xi x9), none, none, none]) ⟨rfl, rfl, rfl, rfl, rfl, rfl, rfl, rfl, rfl, trivial⟩ (hr_167 x1 x2 x3 x4 x5 x6 x7 x9 h7 hL hF)
    · replace hF := br_F hc hF
      refine x_aload_n (i := 0) (b := 116) dX2_wishOf_115 rfl rfl rfl ?_
      refine x_aload_n (i := 1) (b := 117) dX2_wishOf_116 rfl rfl rfl ?_
      refine x_iload_n (i := 2) (b := 118) dX2_wishOf_117 rfl rfl rfl ?_
      refine x_iload (i := 9) (b := 120) dX2_wishOf_118 rfl rfl ?_
      refine x_iload (i := 10) (b := 122) dX2_wishOf_120 rfl rfl ?_
      refine x_iload_n (i := 3) (b := 123) dX2_wishOf_122 rfl rfl rfl ?_
      obtain ⟨v8, h9, hq, hF⟩ := bd_e hF
      refine x_callV (as := [xr 10 x1, xi x2, xi x9, xi v3, xi x3]) (rest := []) (b := 126) (c_X2_value d x1 x2 x9 v3 x3 h7 _ hL hq) dX2_wishOf_123 cw_X2_166 ⟨_, _, rfl, Nat.le_of_ble_eq_true rfl⟩ rfl rfl (Nat.le_of_ble_eq_true rfl) ⟨Nat.le_refl _, Nat.le_refl _⟩ rfl (fun rv hh hp _ => ?_)
      obtain ⟨rfl, rfl, hL⟩ := hp
      refine x_lstore (i := 11) (b := 128) (ls2 := [some (xr 2 0), some (xr 10 x1), some (xi x2), some (xi x3), some (xi x4), some (xi x5), some (xi x6), some (xl x7), none, some (xi x9), some (xi v3), some (xl v8), none]) dX2_wishOf_126 (Nat.le_of_ble_eq_true rfl) rfl rfl ?_
      refine x_lload (i := 11) (b := 130) dX2_wishOf_128 rfl rfl ?_
      refine x_ldc2 (z := (-9223372036854775808)) (b := 133) dX2_wishOf_130 kw_1110 (by decide) rfl ?_
      refine x_lcmp (b := 134) dX2_wishOf_133 rfl ?_
      refine x_if_ne (tgt := 141) (b := 137) dX2_wishOf_134 (by decide) rfl (fun hc => ?_) (fun hc => ?_)
      · replace hF := br_F hc hF
        refine x_lload (i := 11) (b := 143) dX2_wishOf_141 rfl rfl ?_
        exact x_dp (ls2 := [some (xr 2 0), some (xr 10 x1), some (xi x2), some (xi x3), some (xi x4), some (xi x5), some (xi x6), some (xl x7), none, some (xi x9), none, none, none]) ⟨rfl, rfl, rfl, rfl, rfl, rfl, rfl, rfl, rfl, trivial⟩ (hr_143 x1 x2 x3 x4 x5 x6 x7 x9 v8 h9 hL hF)
      · replace hF := br_T hc hF
        refine x_lconst (z := 0) (b := 138) dX2_wishOf_137 rfl (by decide) rfl ?_
        refine x_goto (tgt := 143) dX2_wishOf_138 (by decide) ?_
        exact x_dp (ls2 := [some (xr 2 0), some (xr 10 x1), some (xi x2), some (xi x3), some (xi x4), some (xi x5), some (xi x6), some (xl x7), none, some (xi x9), none, none, none]) ⟨rfl, rfl, rfl, rfl, rfl, rfl, rfl, rfl, rfl, trivial⟩ (hr_143 x1 x2 x3 x4 x5 x6 x7 x9 0 h9 hL hF)
set_option maxHeartbeats 4000000 in
set_option maxRecDepth 100000 in
theorem t_X2_wishOf_5 (E : xE) (d : Nat) (rec : Rk) (r : Int × Hp) (hr_159 : ∀ (x1 x2 x3 x4 x5 x9 x11 : Int) (h : Hp), Lay h → rec 6 [x1, x2, x3, x4, x5, x9, x11] h = some r → X E mX2_wishOf (d + 4) (0, 0) (0, 0) 159 [some (xr 2 0), some (xr 10 x1), some (xi x2), some (xi x3), some (xi x4), some (xi x5), none, none, none, some (xi x9), none, some (xl x11), none] [] h (PoI r)) (hr_167 : ∀ (x1 x2 x3 x4 x5 x6 x7 x9 : Int) (h : Hp), Lay h → rec 7 [x1, x2, x3, x4, x5, x6, x7, x9] h = some r → X E mX2_wishOf (d + 4) (0, 0) (0, 0) 167 [some (xr 2 0), some (xr 10 x1), some (xi x2), some (xi x3), some (xi x4), some (xi x5), some (xi x6), some (xl x7), none, some (xi x9), none, none, none] [] h (PoI r)) (x1 x2 x3 x4 x5 x6 x7 x9 y0 : Int) (h : Hp) (hL : Lay h) (hF : b_X2_wishOf_5 rec x1 x2 x3 x4 x5 x6 x7 x9 y0 h = some r) : X E mX2_wishOf (d + 4) (0, 0) (0, 0) 143 [some (xr 2 0), some (xr 10 x1), some (xi x2), some (xi x3), some (xi x4), some (xi x5), some (xi x6), some (xl x7), none, some (xi x9), none, none, none] [xl y0] h (PoI r) := by
  unfold b_X2_wishOf_5 at hF
  refine x_lstore (i := 11) (b := 145) (ls2 := [some (xr 2 0), some (xr 10 x1), some (xi x2), some (xi x3), some (xi x4), some (xi x5), some (xi x6), some (xl x7), none, some (xi x9), none, some (xl y0), none]) dX2_wishOf_143 (Nat.le_of_ble_eq_true rfl) rfl rfl ?_
  refine x_iload (i := 6) (b := 147) dX2_wishOf_145 rfl rfl ?_
  refine x_iconst (n := (-1)) (b := 148) dX2_wishOf_147 (by decide) rfl ?_
  refine x_icmp_eq (tgt := 159) (b := 151) dX2_wishOf_148 (by decide) rfl (fun hc => ?_) (fun hc => ?_)
  · replace hF := br_T hc hF
    exact x_dp (ls2 := [some (xr 2 0), some (xr 10 x1), some (xi x2), some (xi x3), some (xi x4), some (xi x5), none, none, none, some (xi x9), none, some (xl y0), none]) ⟨rfl, rfl, rfl, rfl, rfl, rfl, rfl, rfl, trivial⟩ (hr_159 x1 x2 x3 x4 x5 x9 y0 h hL hF)
  · replace hF := br_F hc hF
    refine x_lload (i := 11) (b := 153) dX2_wishOf_151 rfl rfl ?_
    refine x_lload (i := 7) (b := 155) dX2_wishOf_153 rfl rfl ?_
    refine x_lcmp (b := 156) dX2_wishOf_155 rfl ?_
    refine x_if_le (tgt := 167) (b := 159) dX2_wishOf_156 (by decide) rfl (fun hc => ?_) (fun hc => ?_)
    · replace hF := br_T hc hF
      exact x_dp (ls2 := [some (xr 2 0), some (xr 10 x1), some (xi x2), some (xi x3), some (xi x4), some (xi x5), some (xi x6), some (xl x7), none, some (xi x9), none, none, none]) ⟨rfl, rfl, rfl, rfl, rfl, rfl, rfl, rfl, rfl, trivial⟩ (hr_167 x1 x2 x3 x4 x5 x6 x7 x9 h hL hF)
    · replace hF := br_F hc hF
      exact x_dp (ls2 := [some (xr 2 0), some (xr 10 x1), some (xi x2), some (xi x3), some (xi x4), some (xi x5), none, none, none, some (xi x9), none, some (xl y0), none]) ⟨rfl, rfl, rfl, rfl, rfl, rfl, rfl, rfl, trivial⟩ (hr_159 x1 x2 x3 x4 x5 x9 y0 h hL hF)
set_option maxHeartbeats 4000000 in
set_option maxRecDepth 100000 in
theorem t_X2_wishOf_6 (E : xE) (d : Nat) (rec : Rk) (r : Int × Hp) (hr_167 : ∀ (x1 x2 x3 x4 x5 x6 x7 x9 : Int) (h : Hp), Lay h → rec 7 [x1, x2, x3, x4, x5, x6, x7, x9] h = some r → X E mX2_wishOf (d + 4) (0, 0) (0, 0) 167 [some (xr 2 0), some (xr 10 x1), some (xi x2), some (xi x3), some (xi x4), some (xi x5), some (xi x6), some (xl x7), none, some (xi x9), none, none, none] [] h (PoI r)) (x1 x2 x3 x4 x5 x9 x11 : Int) (h : Hp) (hL : Lay h) (hF : b_X2_wishOf_6 rec x1 x2 x3 x4 x5 x9 x11 h = some r) : X E mX2_wishOf (d + 4) (0, 0) (0, 0) 159 [some (xr 2 0), some (xr 10 x1), some (xi x2), some (xi x3), some (xi x4), some (xi x5), none, none, none, some (xi x9), none, some (xl x11), none] [] h (PoI r) := by
  unfold b_X2_wishOf_6 at hF
  refine x_iload (i := 9) (b := 161) dX2_wishOf_159 rfl rfl ?_
  refine x_istore (i := 6) (b := 163) (ls2 := [some (xr 2 0), some (xr 10 x1), some (xi x2), some (xi x3), some (xi x4), some (xi x5), some (xi x9), none, none, some (xi x9), none, some (xl x11), none]) dX2_wishOf_161 (Nat.le_of_ble_eq_true rfl) rfl rfl ?_
  refine x_lload (i := 11) (b := 165) dX2_wishOf_163 rfl rfl ?_
  refine x_lstore (i := 7) (b := 167) (ls2 := [some (xr 2 0), some (xr 10 x1), some (xi x2), some (xi x3), some (xi x4), some (xi x5), some (xi x9), some (xl x11), none, some (xi x9), none, some (xl x11), none]) dX2_wishOf_165 (Nat.le_of_ble_eq_true rfl) rfl rfl ?_
  exact x_dp (ls2 := [some (xr 2 0), some (xr 10 x1), some (xi x2), some (xi x3), some (xi x4), some (xi x5), some (xi x9), some (xl x11), none, some (xi x9), none, none, none]) ⟨rfl, rfl, rfl, rfl, rfl, rfl, rfl, rfl, rfl, trivial⟩ (hr_167 x1 x2 x3 x4 x5 x9 x11 x9 h hL hF)
set_option maxHeartbeats 4000000 in
set_option maxRecDepth 100000 in
theorem t_X2_wishOf_7 (E : xE) (d : Nat) (rec : Rk) (r : Int × Hp) (hr_76 : ∀ (x1 x2 x3 x4 x5 x6 x7 x9 : Int) (h : Hp), Lay h → rec 4 [x1, x2, x3, x4, x5, x6, x7, x9] h = some r → X E mX2_wishOf (d + 4) (0, 0) (0, 0) 76 [some (xr 2 0), some (xr 10 x1), some (xi x2), some (xi x3), some (xi x4), some (xi x5), some (xi x6), some (xl x7), none, some (xi x9), none, none, none] [] h (PoI r)) (x1 x2 x3 x4 x5 x6 x7 x9 : Int) (h : Hp) (hL : Lay h) (hF : b_X2_wishOf_7 rec x1 x2 x3 x4 x5 x6 x7 x9 h = some r) : X E mX2_wishOf (d + 4) (0, 0) (0, 0) 167 [some (xr 2 0), some (xr 10 x1), some (xi x2), some (xi x3), some (xi x4), some (xi x5), some (xi x6), some (xl x7), none, some (xi x9), none, none, none] [] h (PoI r) := by
  unfold b_X2_wishOf_7 at hF
  obtain ⟨hs, hF⟩ := ck_e hF
  refine x_iinc (i := 9) (b := 170) (ls2 := [some (xr 2 0), some (xr 10 x1), some (xi x2), some (xi x3), some (xi x4), some (xi x5), some (xi x6), some (xl x7), none, some (xi (x9 + 1)), none, none, none]) dX2_wishOf_167 rfl (Nat.le_of_ble_eq_true rfl) hs rfl rfl ?_
  refine x_goto (tgt := 76) dX2_wishOf_170 (by decide) ?_
  exact x_dp (ls2 := [some (xr 2 0), some (xr 10 x1), some (xi x2), some (xi x3), some (xi x4), some (xi x5), some (xi x6), some (xl x7), none, some (xi (x9 + 1)), none, none, none]) ⟨rfl, rfl, rfl, rfl, rfl, rfl, rfl, rfl, rfl, trivial⟩ (hr_76 x1 x2 x3 x4 x5 x6 x7 (x9 + 1) h hL hF)
set_option maxHeartbeats 4000000 in
set_option maxRecDepth 100000 in
theorem u_X2_wishOf (E : xE) (d : Nat) (r : Int × Hp) : ∀ n : Nat, (∀ (x1 x2 x3 : Int) (h : Hp), Lay h → g_X2_wishOf n 0 [x1, x2, x3] h = some r → X E mX2_wishOf (d + 4) (0, 0) (0, 0) 0 [some (xr 2 0), some (xr 10 x1), some (xi x2), some (xi x3), none, none, none, none, none, none, none, none, none] [] h (PoI r)) ∧ (∀ (x1 x2 x3 x4 : Int) (h : Hp), Lay h → g_X2_wishOf n 1 [x1, x2, x3, x4] h = some r → X E mX2_wishOf (d + 4) (0, 0) (0, 0) 39 [some (xr 2 0), some (xr 10 x1), some (xi x2), some (xi x3), some (xi x4), none, none, none, none, none, none, none, none] [] h (PoI r)) ∧ (∀ (x1 x2 x3 x4 y0 : Int) (h : Hp), Lay h → g_X2_wishOf n 2 [x1, x2, x3, x4, y0] h = some r → X E mX2_wishOf (d + 4) (0, 0) (0, 0) 40 [some (xr 2 0), some (xr 10 x1), some (xi x2), some (xi x3), some (xi x4), none, none, none, none, none, none, none, none] [xi y0] h (PoI r)) ∧ (∀ (x1 x2 x3 x4 x5 : Int) (h : Hp), Lay h → g_X2_wishOf n 3 [x1, x2, x3, x4, x5] h = some r → X E mX2_wishOf (d + 4) (0, 0) (0, 0) 67 [some (xr 2 0), some (xr 10 x1), some (xi x2), some (xi x3), some (xi x4), some (xi x5), none, none, none, none, none, none, none] [] h (PoI r)) ∧ (∀ (x1 x2 x3 x4 x5 x6 x7 x9 : Int) (h : Hp), Lay h → g_X2_wishOf n 4 [x1, x2, x3, x4, x5, x6, x7, x9] h = some r → X E mX2_wishOf (d + 4) (0, 0) (0, 0) 76 [some (xr 2 0), some (xr 10 x1), some (xi x2), some (xi x3), some (xi x4), some (xi x5), some (xi x6), some (xl x7), none, some (xi x9), none, none, none] [] h (PoI r)) ∧ (∀ (x1 x2 x3 x4 x5 x6 x7 x9 y0 : Int) (h : Hp), Lay h → g_X2_wishOf n 5 [x1, x2, x3, x4, x5, x6, x7, x9, y0] h = some r → X E mX2_wishOf (d + 4) (0, 0) (0, 0) 143 [some (xr 2 0), some (xr 10 x1), some (xi x2), some (xi x3), some (xi x4), some (xi x5), some (xi x6), some (xl x7), none, some (xi x9), none, none, none] [xl y0] h (PoI r)) ∧ (∀ (x1 x2 x3 x4 x5 x9 x11 : Int) (h : Hp), Lay h → g_X2_wishOf n 6 [x1, x2, x3, x4, x5, x9, x11] h = some r → X E mX2_wishOf (d + 4) (0, 0) (0, 0) 159 [some (xr 2 0), some (xr 10 x1), some (xi x2), some (xi x3), some (xi x4), some (xi x5), none, none, none, some (xi x9), none, some (xl x11), none] [] h (PoI r)) ∧ (∀ (x1 x2 x3 x4 x5 x6 x7 x9 : Int) (h : Hp), Lay h → g_X2_wishOf n 7 [x1, x2, x3, x4, x5, x6, x7, x9] h = some r → X E mX2_wishOf (d + 4) (0, 0) (0, 0) 167 [some (xr 2 0), some (xr 10 x1), some (xi x2), some (xi x3), some (xi x4), some (xi x5), some (xi x6), some (xl x7), none, some (xi x9), none, none, none] [] h (PoI r)) := by
  intro n
  induction n with
  | zero => exact ⟨fun _ _ _ _ _ hF => no_e (r := r) hF, fun _ _ _ _ _ _ hF => no_e (r := r) hF, fun _ _ _ _ _ _ _ hF => no_e (r := r) hF, fun _ _ _ _ _ _ _ hF => no_e (r := r) hF, fun _ _ _ _ _ _ _ _ _ _ hF => no_e (r := r) hF, fun _ _ _ _ _ _ _ _ _ _ _ hF => no_e (r := r) hF, fun _ _ _ _ _ _ _ _ _ hF => no_e (r := r) hF, fun _ _ _ _ _ _ _ _ _ _ hF => no_e (r := r) hF⟩
  | succ n ih => exact ⟨fun x1 x2 x3 h hL hF => t_X2_wishOf_0 E d (g_X2_wishOf n) r ih.2.1 ih.2.2.1 x1 x2 x3 h hL hF, fun x1 x2 x3 x4 h hL hF => t_X2_wishOf_1 E d (g_X2_wishOf n) r ih.2.2.1 x1 x2 x3 x4 h hL hF, fun x1 x2 x3 x4 y0 h hL hF => t_X2_wishOf_2 E d (g_X2_wishOf n) r ih.2.2.2.1 x1 x2 x3 x4 y0 h hL hF, fun x1 x2 x3 x4 x5 h hL hF => t_X2_wishOf_3 E d (g_X2_wishOf n) r ih.2.2.2.2.1 x1 x2 x3 x4 x5 h hL hF, fun x1 x2 x3 x4 x5 x6 x7 x9 h hL hF => t_X2_wishOf_4 E d (g_X2_wishOf n) r ih.2.2.2.2.2.1 ih.2.2.2.2.2.2.2 x1 x2 x3 x4 x5 x6 x7 x9 h hL hF, fun x1 x2 x3 x4 x5 x6 x7 x9 y0 h hL hF => t_X2_wishOf_5 E d (g_X2_wishOf n) r ih.2.2.2.2.2.2.1 ih.2.2.2.2.2.2.2 x1 x2 x3 x4 x5 x6 x7 x9 y0 h hL hF, fun x1 x2 x3 x4 x5 x9 x11 h hL hF => t_X2_wishOf_6 E d (g_X2_wishOf n) r ih.2.2.2.2.2.2.2 x1 x2 x3 x4 x5 x9 x11 h hL hF, fun x1 x2 x3 x4 x5 x6 x7 x9 h hL hF => t_X2_wishOf_7 E d (g_X2_wishOf n) r ih.2.2.2.2.1 x1 x2 x3 x4 x5 x6 x7 x9 h hL hF⟩
theorem c_X2_wishOf (d : Nat) (x1 x2 x3 : Int) (h : Hp) (r : Int × Hp) (hL : Lay h) (hF : f_X2_wishOf x1 x2 x3 h = some r) : Sp mX2_wishOf (d + 4) (0, 0) [xr 2 0, xr 10 x1, xi x2, xi x3] h (PoI r) :=
  sp_of (by decide) rfl (Nat.le_of_ble_eq_true rfl) (ls := [some (xr 2 0), some (xr 10 x1), some (xi x2), some (xi x3), none, none, none, none, none, none, none, none, none]) rfl (fun E _ => (u_X2_wishOf E d r FU).1 x1 x2 x3 h hL hF)
theorem dX5_counts_0 : decode cX5_counts 0 = .ok (.iload_n 1, 1) := by decide +kernel
theorem dX5_counts_1 : decode cX5_counts 1 = .ok (.ifCond .lt 40, 3) := by decide +kernel
theorem dX5_counts_4 : decode cX5_counts 4 = .ok (.iload_n 1, 1) := by decide +kernel
theorem dX5_counts_5 : decode cX5_counts 5 = .ok (.bipush 32, 2) := by decide +kernel
theorem dX5_counts_7 : decode cX5_counts 7 = .ok (.if_icmp .ge 34, 3) := by decide +kernel
theorem dX5_counts_10 : decode cX5_counts 10 = .ok (.iload_n 1, 1) := by decide +kernel
theorem dX5_counts_11 : decode cX5_counts 11 = .ok (.aload_n 0, 1) := by decide +kernel
theorem dX5_counts_12 : decode cX5_counts 12 = .ok (.invokevirtual 32, 3) := by decide +kernel
theorem dX5_counts_15 : decode cX5_counts 15 = .ok (.if_icmp .ge 26, 3) := by decide +kernel
theorem dX5_counts_18 : decode cX5_counts 18 = .ok (.aload_n 0, 1) := by decide +kernel
theorem dX5_counts_19 : decode cX5_counts 19 = .ok (.getfield 21, 3) := by decide +kernel
theorem dX5_counts_22 : decode cX5_counts 22 = .ok (.iload_n 1, 1) := by decide +kernel
theorem dX5_counts_23 : decode cX5_counts 23 = .ok (.baload, 1) := by decide +kernel
theorem dX5_counts_24 : decode cX5_counts 24 = .ok (.ifCond .ne 17, 3) := by decide +kernel
theorem dX5_counts_27 : decode cX5_counts 27 = .ok (.aload_n 0, 1) := by decide +kernel
theorem dX5_counts_28 : decode cX5_counts 28 = .ok (.getfield 11, 3) := by decide +kernel
theorem dX5_counts_31 : decode cX5_counts 31 = .ok (.iload_n 1, 1) := by decide +kernel
theorem dX5_counts_32 : decode cX5_counts 32 = .ok (.iaload, 1) := by decide +kernel
theorem dX5_counts_33 : decode cX5_counts 33 = .ok (.iconst 2, 1) := by decide +kernel
theorem dX5_counts_34 : decode cX5_counts 34 = .ok (.if_icmp .eq 7, 3) := by decide +kernel
theorem dX5_counts_37 : decode cX5_counts 37 = .ok (.iconst 1, 1) := by decide +kernel
theorem dX5_counts_38 : decode cX5_counts 38 = .ok (.goto 4, 3) := by decide +kernel
theorem dX5_counts_41 : decode cX5_counts 41 = .ok (.iconst 0, 1) := by decide +kernel
theorem dX5_counts_42 : decode cX5_counts 42 = .ok (.ireturn, 1) := by decide +kernel
noncomputable def b_X5_counts_0 (rec : Rk) (x1 : Int) (h : Hp) : Option (Int × Hp) :=
  if x1 < 0 then (
    some (0, h)
  ) else (
    if 32 ≤ x1 then (
      some (0, h)
    ) else (
      bd (f_X5_inForce h) fun v1 h2 =>
      if v1 ≤ x1 then (
        some (0, h2)
      ) else (
        ck (0 ≤ x1 ∧ x1 < 32) <|
        if (gI h2 42 0 x1) = 0 then (
          ck (0 ≤ x1 ∧ x1 < 32) <|
          if (gI h2 39 0 x1) = 2 then (
            some (0, h2)
          ) else (
            some (1, h2)
          )
        ) else (
          some (0, h2)
        )
      )
    )
  )
noncomputable def g_X5_counts (n : Nat) : Rk := Nat.rec (motive := fun _ => Rk) (fun _ _ _ => none) (fun _ rec k l h => if k = 0 then b_X5_counts_0 rec (l.getD 0 0) h else none) n
noncomputable def f_X5_counts (x1 : Int) (h : Hp) : Option (Int × Hp) := g_X5_counts FU 0 [x1] h
set_option maxHeartbeats 4000000 in
set_option maxRecDepth 100000 in
theorem t_X5_counts_0 (E : xE) (d : Nat) (rec : Rk) (r : Int × Hp) (x1 : Int) (h : Hp) (hL : Lay h) (hF : b_X5_counts_0 rec x1 h = some r) : X E mX5_counts (d + 2) (0, 0) (0, 0) 0 [some (xr 5 0), some (xi x1)] [] h (PoI r) := by
  unfold b_X5_counts_0 at hF
  refine x_iload_n (i := 1) (b := 1) dX5_counts_0 rfl rfl rfl ?_
  refine x_if_lt (tgt := 41) (b := 4) dX5_counts_1 (by decide) rfl (fun hc => ?_) (fun hc => ?_)
  · replace hF := br_T hc hF
    refine x_iconst (n := 0) (b := 42) dX5_counts_41 (by decide) rfl ?_
    refine x_zreturn dX5_counts_42 rfl ⟨Nat.le_refl _, Nat.le_refl _⟩ (by decide) ?_
    cases hF
    exact ⟨rfl, rfl, hL⟩
  · replace hF := br_F hc hF
    refine x_iload_n (i := 1) (b := 5) dX5_counts_4 rfl rfl rfl ?_
    refine x_bipush (n := 32) (b := 7) dX5_counts_5 (by decide) rfl ?_
    refine x_icmp_ge (tgt := 41) (b := 10) dX5_counts_7 (by decide) rfl (fun hc => ?_) (fun hc => ?_)
    · replace hF := br_T hc hF
      refine x_iconst (n := 0) (b := 42) dX5_counts_41 (by decide) rfl ?_
      refine x_zreturn dX5_counts_42 rfl ⟨Nat.le_refl _, Nat.le_refl _⟩ (by decide) ?_
      cases hF
      exact ⟨rfl, rfl, hL⟩
    · replace hF := br_F hc hF
      refine x_iload_n (i := 1) (b := 11) dX5_counts_10 rfl rfl rfl ?_
      refine x_aload_n (i := 0) (b := 12) dX5_counts_11 rfl rfl rfl ?_
      obtain ⟨v1, h2, hq, hF⟩ := bd_e hF
      refine x_callV (as := []) (rest := [xi x1]) (b := 15) (c_X5_inForce d h _ hL hq) dX5_counts_12 cw_X5_32 ⟨_, _, rfl, Nat.le_of_ble_eq_true rfl⟩ rfl rfl (Nat.le_of_ble_eq_true rfl) ⟨Nat.le_refl _, Nat.le_refl _⟩ rfl (fun rv hh hp _ => ?_)
      obtain ⟨rfl, rfl, hL⟩ := hp
      refine x_icmp_ge (tgt := 41) (b := 18) dX5_counts_15 (by decide) rfl (fun hc => ?_) (fun hc => ?_)
      · replace hF := br_T hc hF
        refine x_iconst (n := 0) (b := 42) dX5_counts_41 (by decide) rfl ?_
        refine x_zreturn dX5_counts_42 rfl ⟨Nat.le_refl _, Nat.le_refl _⟩ (by decide) ?_
        cases hF
        exact ⟨rfl, rfl, hL⟩
      · replace hF := br_F hc hF
        refine x_aload_n (i := 0) (b := 19) dX5_counts_18 rfl rfl rfl ?_
        refine x_getL (j := 0) (t := (42, 0, true)) (b := 22) fk_X5_21 dX5_counts_19 rfl hL rfl rfl rfl ?_
        refine x_iload_n (i := 1) (b := 23) dX5_counts_22 rfl rfl rfl ?_
        obtain ⟨hs, hF⟩ := ck_e hF
        refine x_zald (v := gI h2 42 0 x1) (b := 24) ak_42 dX5_counts_23 hs rfl rfl ?_
        refine x_if_ne (tgt := 41) (b := 27) dX5_counts_24 (by decide) rfl (fun hc => ?_) (fun hc => ?_)
        · replace hF := br_F hc hF
          refine x_iconst (n := 0) (b := 42) dX5_counts_41 (by decide) rfl ?_
          refine x_zreturn dX5_counts_42 rfl ⟨Nat.le_refl _, Nat.le_refl _⟩ (by decide) ?_
          cases hF
          exact ⟨rfl, rfl, hL⟩
        · replace hF := br_T hc hF
          refine x_aload_n (i := 0) (b := 28) dX5_counts_27 rfl rfl rfl ?_
          refine x_getL (j := 0) (t := (39, 0, true)) (b := 31) fk_X5_11 dX5_counts_28 rfl hL rfl rfl rfl ?_
          refine x_iload_n (i := 1) (b := 32) dX5_counts_31 rfl rfl rfl ?_
          obtain ⟨hs, hF⟩ := ck_e hF
          refine x_iald (v := gI h2 39 0 x1) (b := 33) ak_39 dX5_counts_32 hs rfl rfl ?_
          refine x_iconst (n := 2) (b := 34) dX5_counts_33 (by decide) rfl ?_
          refine x_icmp_eq (tgt := 41) (b := 37) dX5_counts_34 (by decide) rfl (fun hc => ?_) (fun hc => ?_)
          · replace hF := br_T hc hF
            refine x_iconst (n := 0) (b := 42) dX5_counts_41 (by decide) rfl ?_
            refine x_zreturn dX5_counts_42 rfl ⟨Nat.le_refl _, Nat.le_refl _⟩ (by decide) ?_
            cases hF
            exact ⟨rfl, rfl, hL⟩
          · replace hF := br_F hc hF
            refine x_iconst (n := 1) (b := 38) dX5_counts_37 (by decide) rfl ?_
            refine x_goto (tgt := 42) dX5_counts_38 (by decide) ?_
            refine x_zreturn dX5_counts_42 rfl ⟨Nat.le_refl _, Nat.le_refl _⟩ (by decide) ?_
            cases hF
            exact ⟨rfl, rfl, hL⟩
set_option maxHeartbeats 4000000 in
set_option maxRecDepth 100000 in
theorem u_X5_counts (E : xE) (d : Nat) (r : Int × Hp) : ∀ n : Nat, (∀ (x1 : Int) (h : Hp), Lay h → g_X5_counts n 0 [x1] h = some r → X E mX5_counts (d + 2) (0, 0) (0, 0) 0 [some (xr 5 0), some (xi x1)] [] h (PoI r)) := by
  intro n
  induction n with
  | zero => exact fun _ _ _ hF => no_e (r := r) hF
  | succ n ih => exact fun x1 h hL hF => t_X5_counts_0 E d (g_X5_counts n) r  x1 h hL hF
theorem c_X5_counts (d : Nat) (x1 : Int) (h : Hp) (r : Int × Hp) (hL : Lay h) (hF : f_X5_counts x1 h = some r) : Sp mX5_counts (d + 2) (0, 0) [xr 5 0, xi x1] h (PoI r) :=
  sp_of (by decide) rfl (Nat.le_of_ble_eq_true rfl) (ls := [some (xr 5 0), some (xi x1)]) rfl (fun E _ => (u_X5_counts E d r FU) x1 h hL hF)
theorem dX5_firstFalse_0 : decode cX5_firstFalse 0 = .ok (.iconst 0, 1) := by decide +kernel
theorem dX5_firstFalse_1 : decode cX5_firstFalse 1 = .ok (.istore 4, 2) := by decide +kernel
theorem dX5_firstFalse_3 : decode cX5_firstFalse 3 = .ok (.iload 4, 2) := by decide +kernel
theorem dX5_firstFalse_5 : decode cX5_firstFalse 5 = .ok (.bipush 32, 2) := by decide +kernel
theorem dX5_firstFalse_7 : decode cX5_firstFalse 7 = .ok (.if_icmp .ge 57, 3) := by decide +kernel
theorem dX5_firstFalse_10 : decode cX5_firstFalse 10 = .ok (.aload_n 0, 1) := by decide +kernel
theorem dX5_firstFalse_11 : decode cX5_firstFalse 11 = .ok (.iload 4, 2) := by decide +kernel
theorem dX5_firstFalse_13 : decode cX5_firstFalse 13 = .ok (.invokevirtual 42, 3) := by decide +kernel
theorem dX5_firstFalse_16 : decode cX5_firstFalse 16 = .ok (.ifCond .eq 42, 3) := by decide +kernel
theorem dX5_firstFalse_19 : decode cX5_firstFalse 19 = .ok (.aload_n 0, 1) := by decide +kernel
theorem dX5_firstFalse_20 : decode cX5_firstFalse 20 = .ok (.getfield 15, 3) := by decide +kernel
theorem dX5_firstFalse_23 : decode cX5_firstFalse 23 = .ok (.iload 4, 2) := by decide +kernel
theorem dX5_firstFalse_25 : decode cX5_firstFalse 25 = .ok (.iaload, 1) := by decide +kernel
theorem dX5_firstFalse_26 : decode cX5_firstFalse 26 = .ok (.iload_n 1, 1) := by decide +kernel
theorem dX5_firstFalse_27 : decode cX5_firstFalse 27 = .ok (.if_icmp .ne 31, 3) := by decide +kernel
theorem dX5_firstFalse_30 : decode cX5_firstFalse 30 = .ok (.aload_n 0, 1) := by decide +kernel
theorem dX5_firstFalse_31 : decode cX5_firstFalse 31 = .ok (.getfield 18, 3) := by decide +kernel
theorem dX5_firstFalse_34 : decode cX5_firstFalse 34 = .ok (.iload 4, 2) := by decide +kernel
theorem dX5_firstFalse_36 : decode cX5_firstFalse 36 = .ok (.iaload, 1) := by decide +kernel
theorem dX5_firstFalse_37 : decode cX5_firstFalse 37 = .ok (.aload_n 0, 1) := by decide +kernel
theorem dX5_firstFalse_38 : decode cX5_firstFalse 38 = .ok (.getfield 11, 3) := by decide +kernel
theorem dX5_firstFalse_41 : decode cX5_firstFalse 41 = .ok (.iload 4, 2) := by decide +kernel
theorem dX5_firstFalse_43 : decode cX5_firstFalse 43 = .ok (.iaload, 1) := by decide +kernel
theorem dX5_firstFalse_44 : decode cX5_firstFalse 44 = .ok (.ifCond .ne 7, 3) := by decide +kernel
theorem dX5_firstFalse_47 : decode cX5_firstFalse 47 = .ok (.iload_n 2, 1) := by decide +kernel
theorem dX5_firstFalse_48 : decode cX5_firstFalse 48 = .ok (.goto 4, 3) := by decide +kernel
theorem dX5_firstFalse_51 : decode cX5_firstFalse 51 = .ok (.iload_n 3, 1) := by decide +kernel
theorem dX5_firstFalse_52 : decode cX5_firstFalse 52 = .ok (.if_icmp .eq 6, 3) := by decide +kernel
theorem dX5_firstFalse_55 : decode cX5_firstFalse 55 = .ok (.iload 4, 2) := by decide +kernel
theorem dX5_firstFalse_57 : decode cX5_firstFalse 57 = .ok (.ireturn, 1) := by decide +kernel
theorem dX5_firstFalse_58 : decode cX5_firstFalse 58 = .ok (.iinc 4 1, 3) := by decide +kernel
theorem dX5_firstFalse_61 : decode cX5_firstFalse 61 = .ok (.goto (-58), 3) := by decide +kernel
theorem dX5_firstFalse_64 : decode cX5_firstFalse 64 = .ok (.iconst (-1), 1) := by decide +kernel
theorem dX5_firstFalse_65 : decode cX5_firstFalse 65 = .ok (.ireturn, 1) := by decide +kernel
noncomputable def b_X5_firstFalse_0 (rec : Rk) (x1 x2 x3 : Int) (h : Hp) : Option (Int × Hp) :=
  rec 1 [x1, x2, x3, 0] h
noncomputable def b_X5_firstFalse_1 (rec : Rk) (x1 x2 x3 x4 : Int) (h : Hp) : Option (Int × Hp) :=
  if 32 ≤ x4 then (
    some ((-1), h)
  ) else (
    bd (f_X5_counts x4 h) fun v1 h2 =>
    if v1 = 0 then (
      rec 3 [x1, x2, x3, x4] h2
    ) else (
      ck (0 ≤ x4 ∧ x4 < 32) <|
      if (gI h2 40 0 x4) = x1 then (
        ck (0 ≤ x4 ∧ x4 < 32) <|
        ck (0 ≤ x4 ∧ x4 < 32) <|
        if (gI h2 39 0 x4) = 0 then (
          rec 2 [x1, x2, x3, x4, x2, gI h2 41 0 x4] h2
        ) else (
          rec 2 [x1, x2, x3, x4, x3, gI h2 41 0 x4] h2
        )
      ) else (
        rec 3 [x1, x2, x3, x4] h2
      )
    )
  )
noncomputable def b_X5_firstFalse_2 (rec : Rk) (x1 x2 x3 x4 y0 y1 : Int) (h : Hp) : Option (Int × Hp) :=
  if y1 = y0 then (
    rec 3 [x1, x2, x3, x4] h
  ) else (
    some (x4, h)
  )
noncomputable def b_X5_firstFalse_3 (rec : Rk) (x1 x2 x3 x4 : Int) (h : Hp) : Option (Int × Hp) :=
  ck (-2147483648 ≤ x4 + 1 ∧ x4 + 1 < 2147483648) <|
  rec 1 [x1, x2, x3, x4 + 1] h
noncomputable def g_X5_firstFalse (n : Nat) : Rk := Nat.rec (motive := fun _ => Rk) (fun _ _ _ => none) (fun _ rec k l h => if k = 0 then b_X5_firstFalse_0 rec (l.getD 0 0) (l.getD 1 0) (l.getD 2 0) h else if k = 1 then b_X5_firstFalse_1 rec (l.getD 0 0) (l.getD 1 0) (l.getD 2 0) (l.getD 3 0) h else if k = 2 then b_X5_firstFalse_2 rec (l.getD 0 0) (l.getD 1 0) (l.getD 2 0) (l.getD 3 0) (l.getD 4 0) (l.getD 5 0) h else if k = 3 then b_X5_firstFalse_3 rec (l.getD 0 0) (l.getD 1 0) (l.getD 2 0) (l.getD 3 0) h else none) n
noncomputable def f_X5_firstFalse (x1 x2 x3 : Int) (h : Hp) : Option (Int × Hp) := g_X5_firstFalse FU 0 [x1, x2, x3] h
set_option maxHeartbeats 4000000 in
set_option maxRecDepth 100000 in
theorem t_X5_firstFalse_0 (E : xE) (d : Nat) (rec : Rk) (r : Int × Hp) (hr_3 : ∀ (x1 x2 x3 x4 : Int) (h : Hp), Lay h → rec 1 [x1, x2, x3, x4] h = some r → X E mX5_firstFalse (d + 3) (0, 0) (0, 0) 3 [some (xr 5 0), some (xi x1), some (xi x2), some (xi x3), some (xi x4)] [] h (PoI r)) (x1 x2 x3 : Int) (h : Hp) (hL : Lay h) (hF : b_X5_firstFalse_0 rec x1 x2 x3 h = some r) : X E mX5_firstFalse (d + 3) (0, 0) (0, 0) 0 [some (xr 5 0), some (xi x1), some (xi x2), some (xi x3), none] [] h (PoI r) := by
  unfold b_X5_firstFalse_0 at hF
  refine x_iconst (n := 0) (b := 1) dX5_firstFalse_0 (by decide) rfl ?_
  refine x_istore (i := 4) (b := 3) (ls2 := [some (xr 5 0), some (xi x1), some (xi x2), some (xi x3), some (xi 0)]) dX5_firstFalse_1 (Nat.le_of_ble_eq_true rfl) rfl rfl ?_
  exact x_dp (ls2 := [some (xr 5 0), some (xi x1), some (xi x2), some (xi x3), some (xi 0)]) ⟨rfl, rfl, rfl, rfl, rfl, trivial⟩ (hr_3 x1 x2 x3 0 h hL hF)
set_option maxHeartbeats 4000000 in
set_option maxRecDepth 100000 in
theorem t_X5_firstFalse_1 (E : xE) (d : Nat) (rec : Rk) (r : Int × Hp) (hr_52 : ∀ (x1 x2 x3 x4 y0 y1 : Int) (h : Hp), Lay h → rec 2 [x1, x2, x3, x4, y0, y1] h = some r → X E mX5_firstFalse (d + 3) (0, 0) (0, 0) 52 [some (xr 5 0), some (xi x1), some (xi x2), some (xi x3), some (xi x4)] [xi y0, xi y1] h (PoI r)) (hr_58 : ∀ (x1 x2 x3 x4 : Int) (h : Hp), Lay h → rec 3 [x1, x2, x3, x4] h = some r → X E mX5_firstFalse (d + 3) (0, 0) (0, 0) 58 [some (xr 5 0), some (xi x1), some (xi x2), some (xi x3), some (xi x4)] [] h (PoI r)) (x1 x2 x3 x4 : Int) (h : Hp) (hL : Lay h) (hF : b_X5_firstFalse_1 rec x1 x2 x3 x4 h = some r) : X E mX5_firstFalse (d + 3) (0, 0) (0, 0) 3 [some (xr 5 0), some (xi x1), some (xi x2), some (xi x3), some (xi x4)] [] h (PoI r) := by
  unfold b_X5_firstFalse_1 at hF
  refine x_iload (i := 4) (b := 5) dX5_firstFalse_3 rfl rfl ?_
  refine x_bipush (n := 32) (b := 7) dX5_firstFalse_5 (by decide) rfl ?_
  refine x_icmp_ge (tgt := 64) (b := 10) dX5_firstFalse_7 (by decide) rfl (fun hc => ?_) (fun hc => ?_)
  · replace hF := br_T hc hF
    refine x_iconst (n := (-1)) (b := 65) dX5_firstFalse_64 (by decide) rfl ?_
    refine x_ireturn dX5_firstFalse_65 rfl ⟨Nat.le_refl _, Nat.le_refl _⟩ ?_
    cases hF
    exact ⟨rfl, rfl, hL⟩
  · replace hF := br_F hc hF
    refine x_aload_n (i := 0) (b := 11) dX5_firstFalse_10 rfl rfl rfl ?_
    refine x_iload (i := 4) (b := 13) dX5_firstFalse_11 rfl rfl ?_
    obtain ⟨v1, h2, hq, hF⟩ := bd_e hF
    refine x_callV (as := [xi x4]) (rest := []) (b := 16) (c_X5_counts d x4 h _ hL hq) dX5_firstFalse_13 cw_X5_42 ⟨_, _, rfl, Nat.le_of_ble_eq_true rfl⟩ rfl rfl (Nat.le_of_ble_eq_true rfl) ⟨Nat.le_refl _, Nat.le_refl _⟩ rfl (fun rv hh hp _ => ?_)
    obtain ⟨rfl, rfl, hL⟩ := hp
    refine x_if_eq (tgt := 58) (b := 19) dX5_firstFalse_16 (by decide) rfl (fun hc => ?_) (fun hc => ?_)
    · replace hF := br_T hc hF
      exact x_dp (ls2 := [some (xr 5 0), some (xi x1), some (xi x2), some (xi x3), some (xi x4)]) ⟨rfl, rfl, rfl, rfl, rfl, trivial⟩ (hr_58 x1 x2 x3 x4 h2 hL hF)
    · replace hF := br_F hc hF
      refine x_aload_n (i := 0) (b := 20) dX5_firstFalse_19 rfl rfl rfl ?_
      refine x_getL (j := 0) (t := (40, 0, true)) (b := 23) fk_X5_15 dX5_firstFalse_20 rfl hL rfl rfl rfl ?_
      refine x_iload (i := 4) (b := 25) dX5_firstFalse_23 rfl rfl ?_
      obtain ⟨hs, hF⟩ := ck_e hF
      refine x_iald (v := gI h2 40 0 x4) (b := 26) ak_40 dX5_firstFalse_25 hs rfl rfl ?_
      refine x_iload_n (i := 1) (b := 27) dX5_firstFalse_26 rfl rfl rfl ?_
      refine x_icmp_ne (tgt := 58) (b := 30) dX5_firstFalse_27 (by decide) rfl (fun hc => ?_) (fun hc => ?_)
      · replace hF := br_F hc hF
        exact x_dp (ls2 := [some (xr 5 0), some (xi x1), some (xi x2), some (xi x3), some (xi x4)]) ⟨rfl, rfl, rfl, rfl, rfl, trivial⟩ (hr_58 x1 x2 x3 x4 h2 hL hF)
      · replace hF := br_T hc hF
        refine x_aload_n (i := 0) (b := 31) dX5_firstFalse_30 rfl rfl rfl ?_
        refine x_getL (j := 0) (t := (41, 0, true)) (b := 34) fk_X5_18 dX5_firstFalse_31 rfl hL rfl rfl rfl ?_
        refine x_iload (i := 4) (b := 36) dX5_firstFalse_34 rfl rfl ?_
        obtain ⟨hs, hF⟩ := ck_e hF
        refine x_iald (v := gI h2 41 0 x4) (b := 37) ak_41 dX5_firstFalse_36 hs rfl rfl ?_
        refine x_aload_n (i := 0) (b := 38) dX5_firstFalse_37 rfl rfl rfl ?_
        refine x_getL (j := 0) (t := (39, 0, true)) (b := 41) fk_X5_11 dX5_firstFalse_38 rfl hL rfl rfl rfl ?_
        refine x_iload (i := 4) (b := 43) dX5_firstFalse_41 rfl rfl ?_
        obtain ⟨hs, hF⟩ := ck_e hF
        refine x_iald (v := gI h2 39 0 x4) (b := 44) ak_39 dX5_firstFalse_43 hs rfl rfl ?_
        refine x_if_ne (tgt := 51) (b := 47) dX5_firstFalse_44 (by decide) rfl (fun hc => ?_) (fun hc => ?_)
        · replace hF := br_F hc hF
          refine x_iload_n (i := 3) (b := 52) dX5_firstFalse_51 rfl rfl rfl ?_
          exact x_dp (ls2 := [some (xr 5 0), some (xi x1), some (xi x2), some (xi x3), some (xi x4)]) ⟨rfl, rfl, rfl, rfl, rfl, trivial⟩ (hr_52 x1 x2 x3 x4 x3 (gI h2 41 0 x4) h2 hL hF)
        · replace hF := br_T hc hF
          refine x_iload_n (i := 2) (b := 48) dX5_firstFalse_47 rfl rfl rfl ?_
          refine x_goto (tgt := 52) dX5_firstFalse_48 (by decide) ?_
          exact x_dp (ls2 := [some (xr 5 0), some (xi x1), some (xi x2), some (xi x3), some (xi x4)]) ⟨rfl, rfl, rfl, rfl, rfl, trivial⟩ (hr_52 x1 x2 x3 x4 x2 (gI h2 41 0 x4) h2 hL hF)
set_option maxHeartbeats 4000000 in
set_option maxRecDepth 100000 in
theorem t_X5_firstFalse_2 (E : xE) (d : Nat) (rec : Rk) (r : Int × Hp) (hr_58 : ∀ (x1 x2 x3 x4 : Int) (h : Hp), Lay h → rec 3 [x1, x2, x3, x4] h = some r → X E mX5_firstFalse (d + 3) (0, 0) (0, 0) 58 [some (xr 5 0), some (xi x1), some (xi x2), some (xi x3), some (xi x4)] [] h (PoI r)) (x1 x2 x3 x4 y0 y1 : Int) (h : Hp) (hL : Lay h) (hF : b_X5_firstFalse_2 rec x1 x2 x3 x4 y0 y1 h = some r) : X E mX5_firstFalse (d + 3) (0, 0) (0, 0) 52 [some (xr 5 0), some (xi x1), some (xi x2), some (xi x3), some (xi x4)] [xi y0, xi y1] h (PoI r) := by
  unfold b_X5_firstFalse_2 at hF
  refine x_icmp_eq (tgt := 58) (b := 55) dX5_firstFalse_52 (by decide) rfl (fun hc => ?_) (fun hc => ?_)
  · replace hF := br_T hc hF
    exact x_dp (ls2 := [some (xr 5 0), some (xi x1), some (xi x2), some (xi x3), some (xi x4)]) ⟨rfl, rfl, rfl, rfl, rfl, trivial⟩ (hr_58 x1 x2 x3 x4 h hL hF)
  · replace hF := br_F hc hF
    refine x_iload (i := 4) (b := 57) dX5_firstFalse_55 rfl rfl ?_
    refine x_ireturn dX5_firstFalse_57 rfl ⟨Nat.le_refl _, Nat.le_refl _⟩ ?_
    cases hF
    exact ⟨rfl, rfl, hL⟩
set_option maxHeartbeats 4000000 in
set_option maxRecDepth 100000 in
theorem t_X5_firstFalse_3 (E : xE) (d : Nat) (rec : Rk) (r : Int × Hp) (hr_3 : ∀ (x1 x2 x3 x4 : Int) (h : Hp), Lay h → rec 1 [x1, x2, x3, x4] h = some r → X E mX5_firstFalse (d + 3) (0, 0) (0, 0) 3 [some (xr 5 0), some (xi x1), some (xi x2), some (xi x3), some (xi x4)] [] h (PoI r)) (x1 x2 x3 x4 : Int) (h : Hp) (hL : Lay h) (hF : b_X5_firstFalse_3 rec x1 x2 x3 x4 h = some r) : X E mX5_firstFalse (d + 3) (0, 0) (0, 0) 58 [some (xr 5 0), some (xi x1), some (xi x2), some (xi x3), some (xi x4)] [] h (PoI r) := by
  unfold b_X5_firstFalse_3 at hF
  obtain ⟨hs, hF⟩ := ck_e hF
  refine x_iinc (i := 4) (b := 61) (ls2 := [some (xr 5 0), some (xi x1), some (xi x2), some (xi x3), some (xi (x4 + 1))]) dX5_firstFalse_58 rfl (Nat.le_of_ble_eq_true rfl) hs rfl rfl ?_
  refine x_goto (tgt := 3) dX5_firstFalse_61 (by decide) ?_
  exact x_dp (ls2 := [some (xr 5 0), some (xi x1), some (xi x2), some (xi x3), some (xi (x4 + 1))]) ⟨rfl, rfl, rfl, rfl, rfl, trivial⟩ (hr_3 x1 x2 x3 (x4 + 1) h hL hF)
set_option maxHeartbeats 4000000 in
set_option maxRecDepth 100000 in
theorem u_X5_firstFalse (E : xE) (d : Nat) (r : Int × Hp) : ∀ n : Nat, (∀ (x1 x2 x3 : Int) (h : Hp), Lay h → g_X5_firstFalse n 0 [x1, x2, x3] h = some r → X E mX5_firstFalse (d + 3) (0, 0) (0, 0) 0 [some (xr 5 0), some (xi x1), some (xi x2), some (xi x3), none] [] h (PoI r)) ∧ (∀ (x1 x2 x3 x4 : Int) (h : Hp), Lay h → g_X5_firstFalse n 1 [x1, x2, x3, x4] h = some r → X E mX5_firstFalse (d + 3) (0, 0) (0, 0) 3 [some (xr 5 0), some (xi x1), some (xi x2), some (xi x3), some (xi x4)] [] h (PoI r)) ∧ (∀ (x1 x2 x3 x4 y0 y1 : Int) (h : Hp), Lay h → g_X5_firstFalse n 2 [x1, x2, x3, x4, y0, y1] h = some r → X E mX5_firstFalse (d + 3) (0, 0) (0, 0) 52 [some (xr 5 0), some (xi x1), some (xi x2), some (xi x3), some (xi x4)] [xi y0, xi y1] h (PoI r)) ∧ (∀ (x1 x2 x3 x4 : Int) (h : Hp), Lay h → g_X5_firstFalse n 3 [x1, x2, x3, x4] h = some r → X E mX5_firstFalse (d + 3) (0, 0) (0, 0) 58 [some (xr 5 0), some (xi x1), some (xi x2), some (xi x3), some (xi x4)] [] h (PoI r)) := by
  intro n
  induction n with
  | zero => exact ⟨fun _ _ _ _ _ hF => no_e (r := r) hF, fun _ _ _ _ _ _ hF => no_e (r := r) hF, fun _ _ _ _ _ _ _ _ hF => no_e (r := r) hF, fun _ _ _ _ _ _ hF => no_e (r := r) hF⟩
  | succ n ih => exact ⟨fun x1 x2 x3 h hL hF => t_X5_firstFalse_0 E d (g_X5_firstFalse n) r ih.2.1 x1 x2 x3 h hL hF, fun x1 x2 x3 x4 h hL hF => t_X5_firstFalse_1 E d (g_X5_firstFalse n) r ih.2.2.1 ih.2.2.2 x1 x2 x3 x4 h hL hF, fun x1 x2 x3 x4 y0 y1 h hL hF => t_X5_firstFalse_2 E d (g_X5_firstFalse n) r ih.2.2.2 x1 x2 x3 x4 y0 y1 h hL hF, fun x1 x2 x3 x4 h hL hF => t_X5_firstFalse_3 E d (g_X5_firstFalse n) r ih.2.1 x1 x2 x3 x4 h hL hF⟩
theorem c_X5_firstFalse (d : Nat) (x1 x2 x3 : Int) (h : Hp) (r : Int × Hp) (hL : Lay h) (hF : f_X5_firstFalse x1 x2 x3 h = some r) : Sp mX5_firstFalse (d + 3) (0, 0) [xr 5 0, xi x1, xi x2, xi x3] h (PoI r) :=
  sp_of (by decide) rfl (Nat.le_of_ble_eq_true rfl) (ls := [some (xr 5 0), some (xi x1), some (xi x2), some (xi x3), none]) rfl (fun E _ => (u_X5_firstFalse E d r FU).1 x1 x2 x3 h hL hF)
theorem dX5_firstFrom_0 : decode cX5_firstFrom 0 = .ok (.iconst 0, 1) := by decide +kernel
theorem dX5_firstFrom_1 : decode cX5_firstFrom 1 = .ok (.istore_n 2, 1) := by decide +kernel
theorem dX5_firstFrom_2 : decode cX5_firstFrom 2 = .ok (.iload_n 2, 1) := by decide +kernel
theorem dX5_firstFrom_3 : decode cX5_firstFrom 3 = .ok (.bipush 32, 2) := by decide +kernel
theorem dX5_firstFrom_5 : decode cX5_firstFrom 5 = .ok (.if_icmp .ge 29, 3) := by decide +kernel
theorem dX5_firstFrom_8 : decode cX5_firstFrom 8 = .ok (.aload_n 0, 1) := by decide +kernel
theorem dX5_firstFrom_9 : decode cX5_firstFrom 9 = .ok (.iload_n 2, 1) := by decide +kernel
theorem dX5_firstFrom_10 : decode cX5_firstFrom 10 = .ok (.invokevirtual 42, 3) := by decide +kernel
theorem dX5_firstFrom_13 : decode cX5_firstFrom 13 = .ok (.ifCond .eq 15, 3) := by decide +kernel
theorem dX5_firstFrom_16 : decode cX5_firstFrom 16 = .ok (.aload_n 0, 1) := by decide +kernel
theorem dX5_firstFrom_17 : decode cX5_firstFrom 17 = .ok (.getfield 15, 3) := by decide +kernel
theorem dX5_firstFrom_20 : decode cX5_firstFrom 20 = .ok (.iload_n 2, 1) := by decide +kernel
theorem dX5_firstFrom_21 : decode cX5_firstFrom 21 = .ok (.iaload, 1) := by decide +kernel
theorem dX5_firstFrom_22 : decode cX5_firstFrom 22 = .ok (.iload_n 1, 1) := by decide +kernel
theorem dX5_firstFrom_23 : decode cX5_firstFrom 23 = .ok (.if_icmp .lt 5, 3) := by decide +kernel
theorem dX5_firstFrom_26 : decode cX5_firstFrom 26 = .ok (.iload_n 2, 1) := by decide +kernel
theorem dX5_firstFrom_27 : decode cX5_firstFrom 27 = .ok (.ireturn, 1) := by decide +kernel
theorem dX5_firstFrom_28 : decode cX5_firstFrom 28 = .ok (.iinc 2 1, 3) := by decide +kernel
theorem dX5_firstFrom_31 : decode cX5_firstFrom 31 = .ok (.goto (-29), 3) := by decide +kernel
theorem dX5_firstFrom_34 : decode cX5_firstFrom 34 = .ok (.iconst (-1), 1) := by decide +kernel
theorem dX5_firstFrom_35 : decode cX5_firstFrom 35 = .ok (.ireturn, 1) := by decide +kernel
noncomputable def b_X5_firstFrom_0 (rec : Rk) (x1 : Int) (h : Hp) : Option (Int × Hp) :=
  rec 1 [x1, 0] h
noncomputable def b_X5_firstFrom_1 (rec : Rk) (x1 x2 : Int) (h : Hp) : Option (Int × Hp) :=
  if 32 ≤ x2 then (
    some ((-1), h)
  ) else (
    bd (f_X5_counts x2 h) fun v1 h2 =>
    if v1 = 0 then (
      rec 2 [x1, x2] h2
    ) else (
      ck (0 ≤ x2 ∧ x2 < 32) <|
      if (gI h2 40 0 x2) < x1 then (
        rec 2 [x1, x2] h2
      ) else (
        some (x2, h2)
      )
    )
  )
noncomputable def b_X5_firstFrom_2 (rec : Rk) (x1 x2 : Int) (h : Hp) : Option (Int × Hp) :=
  ck (-2147483648 ≤ x2 + 1 ∧ x2 + 1 < 2147483648) <|
  rec 1 [x1, x2 + 1] h
noncomputable def g_X5_firstFrom (n : Nat) : Rk := Nat.rec (motive := fun _ => Rk) (fun _ _ _ => none) (fun _ rec k l h => if k = 0 then b_X5_firstFrom_0 rec (l.getD 0 0) h else if k = 1 then b_X5_firstFrom_1 rec (l.getD 0 0) (l.getD 1 0) h else if k = 2 then b_X5_firstFrom_2 rec (l.getD 0 0) (l.getD 1 0) h else none) n
noncomputable def f_X5_firstFrom (x1 : Int) (h : Hp) : Option (Int × Hp) := g_X5_firstFrom FU 0 [x1] h
set_option maxHeartbeats 4000000 in
set_option maxRecDepth 100000 in
theorem t_X5_firstFrom_0 (E : xE) (d : Nat) (rec : Rk) (r : Int × Hp) (hr_2 : ∀ (x1 x2 : Int) (h : Hp), Lay h → rec 1 [x1, x2] h = some r → X E mX5_firstFrom (d + 3) (0, 0) (0, 0) 2 [some (xr 5 0), some (xi x1), some (xi x2)] [] h (PoI r)) (x1 : Int) (h : Hp) (hL : Lay h) (hF : b_X5_firstFrom_0 rec x1 h = some r) : X E mX5_firstFrom (d + 3) (0, 0) (0, 0) 0 [some (xr 5 0), some (xi x1), none] [] h (PoI r) := by
  unfold b_X5_firstFrom_0 at hF
  refine x_iconst (n := 0) (b := 1) dX5_firstFrom_0 (by decide) rfl ?_
  refine x_istore_n (i := 2) (b := 2) (ls2 := [some (xr 5 0), some (xi x1), some (xi 0)]) dX5_firstFrom_1 rfl (Nat.le_of_ble_eq_true rfl) rfl rfl ?_
  exact x_dp (ls2 := [some (xr 5 0), some (xi x1), some (xi 0)]) ⟨rfl, rfl, rfl, trivial⟩ (hr_2 x1 0 h hL hF)
set_option maxHeartbeats 4000000 in
set_option maxRecDepth 100000 in
theorem t_X5_firstFrom_1 (E : xE) (d : Nat) (rec : Rk) (r : Int × Hp) (hr_28 : ∀ (x1 x2 : Int) (h : Hp), Lay h → rec 2 [x1, x2] h = some r → X E mX5_firstFrom (d + 3) (0, 0) (0, 0) 28 [some (xr 5 0), some (xi x1), some (xi x2)] [] h (PoI r)) (x1 x2 : Int) (h : Hp) (hL : Lay h) (hF : b_X5_firstFrom_1 rec x1 x2 h = some r) : X E mX5_firstFrom (d + 3) (0, 0) (0, 0) 2 [some (xr 5 0), some (xi x1), some (xi x2)] [] h (PoI r) := by
  unfold b_X5_firstFrom_1 at hF
  refine x_iload_n (i := 2) (b := 3) dX5_firstFrom_2 rfl rfl rfl ?_
  refine x_bipush (n := 32) (b := 5) dX5_firstFrom_3 (by decide) rfl ?_
  refine x_icmp_ge (tgt := 34) (b := 8) dX5_firstFrom_5 (by decide) rfl (fun hc => ?_) (fun hc => ?_)
  · replace hF := br_T hc hF
    refine x_iconst (n := (-1)) (b := 35) dX5_firstFrom_34 (by decide) rfl ?_
    refine x_ireturn dX5_firstFrom_35 rfl ⟨Nat.le_refl _, Nat.le_refl _⟩ ?_
    cases hF
    exact ⟨rfl, rfl, hL⟩
  · replace hF := br_F hc hF
    refine x_aload_n (i := 0) (b := 9) dX5_firstFrom_8 rfl rfl rfl ?_
    refine x_iload_n (i := 2) (b := 10) dX5_firstFrom_9 rfl rfl rfl ?_
    obtain ⟨v1, h2, hq, hF⟩ := bd_e hF
    refine x_callV (as := [xi x2]) (rest := []) (b := 13) (c_X5_counts d x2 h _ hL hq) dX5_firstFrom_10 cw_X5_42 ⟨_, _, rfl, Nat.le_of_ble_eq_true rfl⟩ rfl rfl (Nat.le_of_ble_eq_true rfl) ⟨Nat.le_refl _, Nat.le_refl _⟩ rfl (fun rv hh hp _ => ?_)
    obtain ⟨rfl, rfl, hL⟩ := hp
    refine x_if_eq (tgt := 28) (b := 16) dX5_firstFrom_13 (by decide) rfl (fun hc => ?_) (fun hc => ?_)
    · replace hF := br_T hc hF
      exact x_dp (ls2 := [some (xr 5 0), some (xi x1), some (xi x2)]) ⟨rfl, rfl, rfl, trivial⟩ (hr_28 x1 x2 h2 hL hF)
    · replace hF := br_F hc hF
      refine x_aload_n (i := 0) (b := 17) dX5_firstFrom_16 rfl rfl rfl ?_
      refine x_getL (j := 0) (t := (40, 0, true)) (b := 20) fk_X5_15 dX5_firstFrom_17 rfl hL rfl rfl rfl ?_
      refine x_iload_n (i := 2) (b := 21) dX5_firstFrom_20 rfl rfl rfl ?_
      obtain ⟨hs, hF⟩ := ck_e hF
      refine x_iald (v := gI h2 40 0 x2) (b := 22) ak_40 dX5_firstFrom_21 hs rfl rfl ?_
      refine x_iload_n (i := 1) (b := 23) dX5_firstFrom_22 rfl rfl rfl ?_
      refine x_icmp_lt (tgt := 28) (b := 26) dX5_firstFrom_23 (by decide) rfl (fun hc => ?_) (fun hc => ?_)
      · replace hF := br_T hc hF
        exact x_dp (ls2 := [some (xr 5 0), some (xi x1), some (xi x2)]) ⟨rfl, rfl, rfl, trivial⟩ (hr_28 x1 x2 h2 hL hF)
      · replace hF := br_F hc hF
        refine x_iload_n (i := 2) (b := 27) dX5_firstFrom_26 rfl rfl rfl ?_
        refine x_ireturn dX5_firstFrom_27 rfl ⟨Nat.le_refl _, Nat.le_refl _⟩ ?_
        cases hF
        exact ⟨rfl, rfl, hL⟩
set_option maxHeartbeats 4000000 in
set_option maxRecDepth 100000 in
theorem t_X5_firstFrom_2 (E : xE) (d : Nat) (rec : Rk) (r : Int × Hp) (hr_2 : ∀ (x1 x2 : Int) (h : Hp), Lay h → rec 1 [x1, x2] h = some r → X E mX5_firstFrom (d + 3) (0, 0) (0, 0) 2 [some (xr 5 0), some (xi x1), some (xi x2)] [] h (PoI r)) (x1 x2 : Int) (h : Hp) (hL : Lay h) (hF : b_X5_firstFrom_2 rec x1 x2 h = some r) : X E mX5_firstFrom (d + 3) (0, 0) (0, 0) 28 [some (xr 5 0), some (xi x1), some (xi x2)] [] h (PoI r) := by
  unfold b_X5_firstFrom_2 at hF
  obtain ⟨hs, hF⟩ := ck_e hF
  refine x_iinc (i := 2) (b := 31) (ls2 := [some (xr 5 0), some (xi x1), some (xi (x2 + 1))]) dX5_firstFrom_28 rfl (Nat.le_of_ble_eq_true rfl) hs rfl rfl ?_
  refine x_goto (tgt := 2) dX5_firstFrom_31 (by decide) ?_
  exact x_dp (ls2 := [some (xr 5 0), some (xi x1), some (xi (x2 + 1))]) ⟨rfl, rfl, rfl, trivial⟩ (hr_2 x1 (x2 + 1) h hL hF)
set_option maxHeartbeats 4000000 in
set_option maxRecDepth 100000 in
theorem u_X5_firstFrom (E : xE) (d : Nat) (r : Int × Hp) : ∀ n : Nat, (∀ (x1 : Int) (h : Hp), Lay h → g_X5_firstFrom n 0 [x1] h = some r → X E mX5_firstFrom (d + 3) (0, 0) (0, 0) 0 [some (xr 5 0), some (xi x1), none] [] h (PoI r)) ∧ (∀ (x1 x2 : Int) (h : Hp), Lay h → g_X5_firstFrom n 1 [x1, x2] h = some r → X E mX5_firstFrom (d + 3) (0, 0) (0, 0) 2 [some (xr 5 0), some (xi x1), some (xi x2)] [] h (PoI r)) ∧ (∀ (x1 x2 : Int) (h : Hp), Lay h → g_X5_firstFrom n 2 [x1, x2] h = some r → X E mX5_firstFrom (d + 3) (0, 0) (0, 0) 28 [some (xr 5 0), some (xi x1), some (xi x2)] [] h (PoI r)) := by
  intro n
  induction n with
  | zero => exact ⟨fun _ _ _ hF => no_e (r := r) hF, fun _ _ _ _ hF => no_e (r := r) hF, fun _ _ _ _ hF => no_e (r := r) hF⟩
  | succ n ih => exact ⟨fun x1 h hL hF => t_X5_firstFrom_0 E d (g_X5_firstFrom n) r ih.2.1 x1 h hL hF, fun x1 x2 h hL hF => t_X5_firstFrom_1 E d (g_X5_firstFrom n) r ih.2.2 x1 x2 h hL hF, fun x1 x2 h hL hF => t_X5_firstFrom_2 E d (g_X5_firstFrom n) r ih.2.1 x1 x2 h hL hF⟩
theorem c_X5_firstFrom (d : Nat) (x1 : Int) (h : Hp) (r : Int × Hp) (hL : Lay h) (hF : f_X5_firstFrom x1 h = some r) : Sp mX5_firstFrom (d + 3) (0, 0) [xr 5 0, xi x1] h (PoI r) :=
  sp_of (by decide) rfl (Nat.le_of_ble_eq_true rfl) (ls := [some (xr 5 0), some (xi x1), none]) rfl (fun E _ => (u_X5_firstFrom E d r FU).1 x1 h hL hF)
theorem dX5_latestMeal_0 : decode cX5_latestMeal 0 = .ok (.iconst (-1), 1) := by decide +kernel
theorem dX5_latestMeal_1 : decode cX5_latestMeal 1 = .ok (.istore_n 1, 1) := by decide +kernel
theorem dX5_latestMeal_2 : decode cX5_latestMeal 2 = .ok (.iconst 0, 1) := by decide +kernel
theorem dX5_latestMeal_3 : decode cX5_latestMeal 3 = .ok (.istore_n 2, 1) := by decide +kernel
theorem dX5_latestMeal_4 : decode cX5_latestMeal 4 = .ok (.iload_n 2, 1) := by decide +kernel
theorem dX5_latestMeal_5 : decode cX5_latestMeal 5 = .ok (.bipush 32, 2) := by decide +kernel
theorem dX5_latestMeal_7 : decode cX5_latestMeal 7 = .ok (.if_icmp .ge 32, 3) := by decide +kernel
theorem dX5_latestMeal_10 : decode cX5_latestMeal 10 = .ok (.aload_n 0, 1) := by decide +kernel
theorem dX5_latestMeal_11 : decode cX5_latestMeal 11 = .ok (.iload_n 2, 1) := by decide +kernel
theorem dX5_latestMeal_12 : decode cX5_latestMeal 12 = .ok (.invokevirtual 42, 3) := by decide +kernel
theorem dX5_latestMeal_15 : decode cX5_latestMeal 15 = .ok (.ifCond .eq 16, 3) := by decide +kernel
theorem dX5_latestMeal_18 : decode cX5_latestMeal 18 = .ok (.iload_n 1, 1) := by decide +kernel
theorem dX5_latestMeal_19 : decode cX5_latestMeal 19 = .ok (.aload_n 0, 1) := by decide +kernel
theorem dX5_latestMeal_20 : decode cX5_latestMeal 20 = .ok (.getfield 15, 3) := by decide +kernel
theorem dX5_latestMeal_23 : decode cX5_latestMeal 23 = .ok (.iload_n 2, 1) := by decide +kernel
theorem dX5_latestMeal_24 : decode cX5_latestMeal 24 = .ok (.iaload, 1) := by decide +kernel
theorem dX5_latestMeal_25 : decode cX5_latestMeal 25 = .ok (.invokestatic 46, 3) := by decide +kernel
theorem dX5_latestMeal_28 : decode cX5_latestMeal 28 = .ok (.goto 4, 3) := by decide +kernel
theorem dX5_latestMeal_31 : decode cX5_latestMeal 31 = .ok (.iload_n 1, 1) := by decide +kernel
theorem dX5_latestMeal_32 : decode cX5_latestMeal 32 = .ok (.istore_n 1, 1) := by decide +kernel
theorem dX5_latestMeal_33 : decode cX5_latestMeal 33 = .ok (.iinc 2 1, 3) := by decide +kernel
theorem dX5_latestMeal_36 : decode cX5_latestMeal 36 = .ok (.goto (-32), 3) := by decide +kernel
theorem dX5_latestMeal_39 : decode cX5_latestMeal 39 = .ok (.iload_n 1, 1) := by decide +kernel
theorem dX5_latestMeal_40 : decode cX5_latestMeal 40 = .ok (.ireturn, 1) := by decide +kernel
noncomputable def b_X5_latestMeal_0 (rec : Rk) (h : Hp) : Option (Int × Hp) :=
  rec 1 [(-1), 0] h
noncomputable def b_X5_latestMeal_1 (rec : Rk) (x1 x2 : Int) (h : Hp) : Option (Int × Hp) :=
  if 32 ≤ x2 then (
    some (x1, h)
  ) else (
    bd (f_X5_counts x2 h) fun v1 h2 =>
    if v1 = 0 then (
      rec 2 [x2, x1] h2
    ) else (
      ck (0 ≤ x2 ∧ x2 < 32) <|
      rec 2 [x2, max x1 (gI h2 40 0 x2)] h2
    )
  )
noncomputable def b_X5_latestMeal_2 (rec : Rk) (x2 y0 : Int) (h : Hp) : Option (Int × Hp) :=
  ck (-2147483648 ≤ x2 + 1 ∧ x2 + 1 < 2147483648) <|
  rec 1 [y0, x2 + 1] h
noncomputable def g_X5_latestMeal (n : Nat) : Rk := Nat.rec (motive := fun _ => Rk) (fun _ _ _ => none) (fun _ rec k l h => if k = 0 then b_X5_latestMeal_0 rec  h else if k = 1 then b_X5_latestMeal_1 rec (l.getD 0 0) (l.getD 1 0) h else if k = 2 then b_X5_latestMeal_2 rec (l.getD 0 0) (l.getD 1 0) h else none) n
noncomputable def f_X5_latestMeal (h : Hp) : Option (Int × Hp) := g_X5_latestMeal FU 0 [] h
set_option maxHeartbeats 4000000 in
set_option maxRecDepth 100000 in
theorem t_X5_latestMeal_0 (E : xE) (d : Nat) (rec : Rk) (r : Int × Hp) (hr_4 : ∀ (x1 x2 : Int) (h : Hp), Lay h → rec 1 [x1, x2] h = some r → X E mX5_latestMeal (d + 3) (0, 0) (0, 0) 4 [some (xr 5 0), some (xi x1), some (xi x2)] [] h (PoI r)) (h : Hp) (hL : Lay h) (hF : b_X5_latestMeal_0 rec  h = some r) : X E mX5_latestMeal (d + 3) (0, 0) (0, 0) 0 [some (xr 5 0), none, none] [] h (PoI r) := by
  unfold b_X5_latestMeal_0 at hF
  refine x_iconst (n := (-1)) (b := 1) dX5_latestMeal_0 (by decide) rfl ?_
  refine x_istore_n (i := 1) (b := 2) (ls2 := [some (xr 5 0), some (xi (-1)), none]) dX5_latestMeal_1 rfl (Nat.le_of_ble_eq_true rfl) rfl rfl ?_
  refine x_iconst (n := 0) (b := 3) dX5_latestMeal_2 (by decide) rfl ?_
  refine x_istore_n (i := 2) (b := 4) (ls2 := [some (xr 5 0), some (xi (-1)), some (xi 0)]) dX5_latestMeal_3 rfl (Nat.le_of_ble_eq_true rfl) rfl rfl ?_
  exact x_dp (ls2 := [some (xr 5 0), some (xi (-1)), some (xi 0)]) ⟨rfl, rfl, rfl, trivial⟩ (hr_4 (-1) 0 h hL hF)
set_option maxHeartbeats 4000000 in
set_option maxRecDepth 100000 in
theorem t_X5_latestMeal_1 (E : xE) (d : Nat) (rec : Rk) (r : Int × Hp) (hr_32 : ∀ (x2 y0 : Int) (h : Hp), Lay h → rec 2 [x2, y0] h = some r → X E mX5_latestMeal (d + 3) (0, 0) (0, 0) 32 [some (xr 5 0), none, some (xi x2)] [xi y0] h (PoI r)) (x1 x2 : Int) (h : Hp) (hL : Lay h) (hF : b_X5_latestMeal_1 rec x1 x2 h = some r) : X E mX5_latestMeal (d + 3) (0, 0) (0, 0) 4 [some (xr 5 0), some (xi x1), some (xi x2)] [] h (PoI r) := by
  unfold b_X5_latestMeal_1 at hF
  refine x_iload_n (i := 2) (b := 5) dX5_latestMeal_4 rfl rfl rfl ?_
  refine x_bipush (n := 32) (b := 7) dX5_latestMeal_5 (by decide) rfl ?_
  refine x_icmp_ge (tgt := 39) (b := 10) dX5_latestMeal_7 (by decide) rfl (fun hc => ?_) (fun hc => ?_)
  · replace hF := br_T hc hF
    refine x_iload_n (i := 1) (b := 40) dX5_latestMeal_39 rfl rfl rfl ?_
    refine x_ireturn dX5_latestMeal_40 rfl ⟨Nat.le_refl _, Nat.le_refl _⟩ ?_
    cases hF
    exact ⟨rfl, rfl, hL⟩
  · replace hF := br_F hc hF
    refine x_aload_n (i := 0) (b := 11) dX5_latestMeal_10 rfl rfl rfl ?_
    refine x_iload_n (i := 2) (b := 12) dX5_latestMeal_11 rfl rfl rfl ?_
    obtain ⟨v1, h2, hq, hF⟩ := bd_e hF
    refine x_callV (as := [xi x2]) (rest := []) (b := 15) (c_X5_counts d x2 h _ hL hq) dX5_latestMeal_12 cw_X5_42 ⟨_, _, rfl, Nat.le_of_ble_eq_true rfl⟩ rfl rfl (Nat.le_of_ble_eq_true rfl) ⟨Nat.le_refl _, Nat.le_refl _⟩ rfl (fun rv hh hp _ => ?_)
    obtain ⟨rfl, rfl, hL⟩ := hp
    refine x_if_eq (tgt := 31) (b := 18) dX5_latestMeal_15 (by decide) rfl (fun hc => ?_) (fun hc => ?_)
    · replace hF := br_T hc hF
      refine x_iload_n (i := 1) (b := 32) dX5_latestMeal_31 rfl rfl rfl ?_
      exact x_dp (ls2 := [some (xr 5 0), none, some (xi x2)]) ⟨rfl, rfl, trivial⟩ (hr_32 x2 x1 h2 hL hF)
    · replace hF := br_F hc hF
      refine x_iload_n (i := 1) (b := 19) dX5_latestMeal_18 rfl rfl rfl ?_
      refine x_aload_n (i := 0) (b := 20) dX5_latestMeal_19 rfl rfl rfl ?_
      refine x_getL (j := 0) (t := (40, 0, true)) (b := 23) fk_X5_15 dX5_latestMeal_20 rfl hL rfl rfl rfl ?_
      refine x_iload_n (i := 2) (b := 24) dX5_latestMeal_23 rfl rfl rfl ?_
      obtain ⟨hs, hF⟩ := ck_e hF
      refine x_iald (v := gI h2 40 0 x2) (b := 25) ak_40 dX5_latestMeal_24 hs rfl rfl ?_
      refine x_max (b := 28) dX5_latestMeal_25 mw_X5_46 (Nat.le_of_ble_eq_true rfl) ⟨Nat.le_refl _, Nat.le_refl _⟩ rfl ?_
      refine x_goto (tgt := 32) dX5_latestMeal_28 (by decide) ?_
      exact x_dp (ls2 := [some (xr 5 0), none, some (xi x2)]) ⟨rfl, rfl, trivial⟩ (hr_32 x2 (max x1 (gI h2 40 0 x2)) h2 hL hF)
set_option maxHeartbeats 4000000 in
set_option maxRecDepth 100000 in
theorem t_X5_latestMeal_2 (E : xE) (d : Nat) (rec : Rk) (r : Int × Hp) (hr_4 : ∀ (x1 x2 : Int) (h : Hp), Lay h → rec 1 [x1, x2] h = some r → X E mX5_latestMeal (d + 3) (0, 0) (0, 0) 4 [some (xr 5 0), some (xi x1), some (xi x2)] [] h (PoI r)) (x2 y0 : Int) (h : Hp) (hL : Lay h) (hF : b_X5_latestMeal_2 rec x2 y0 h = some r) : X E mX5_latestMeal (d + 3) (0, 0) (0, 0) 32 [some (xr 5 0), none, some (xi x2)] [xi y0] h (PoI r) := by
  unfold b_X5_latestMeal_2 at hF
  refine x_istore_n (i := 1) (b := 33) (ls2 := [some (xr 5 0), some (xi y0), some (xi x2)]) dX5_latestMeal_32 rfl (Nat.le_of_ble_eq_true rfl) rfl rfl ?_
  obtain ⟨hs, hF⟩ := ck_e hF
  refine x_iinc (i := 2) (b := 36) (ls2 := [some (xr 5 0), some (xi y0), some (xi (x2 + 1))]) dX5_latestMeal_33 rfl (Nat.le_of_ble_eq_true rfl) hs rfl rfl ?_
  refine x_goto (tgt := 4) dX5_latestMeal_36 (by decide) ?_
  exact x_dp (ls2 := [some (xr 5 0), some (xi y0), some (xi (x2 + 1))]) ⟨rfl, rfl, rfl, trivial⟩ (hr_4 y0 (x2 + 1) h hL hF)
set_option maxHeartbeats 4000000 in
set_option maxRecDepth 100000 in
theorem u_X5_latestMeal (E : xE) (d : Nat) (r : Int × Hp) : ∀ n : Nat, (∀ (h : Hp), Lay h → g_X5_latestMeal n 0 [] h = some r → X E mX5_latestMeal (d + 3) (0, 0) (0, 0) 0 [some (xr 5 0), none, none] [] h (PoI r)) ∧ (∀ (x1 x2 : Int) (h : Hp), Lay h → g_X5_latestMeal n 1 [x1, x2] h = some r → X E mX5_latestMeal (d + 3) (0, 0) (0, 0) 4 [some (xr 5 0), some (xi x1), some (xi x2)] [] h (PoI r)) ∧ (∀ (x2 y0 : Int) (h : Hp), Lay h → g_X5_latestMeal n 2 [x2, y0] h = some r → X E mX5_latestMeal (d + 3) (0, 0) (0, 0) 32 [some (xr 5 0), none, some (xi x2)] [xi y0] h (PoI r)) := by
  intro n
  induction n with
  | zero => exact ⟨fun _ _ hF => no_e (r := r) hF, fun _ _ _ _ hF => no_e (r := r) hF, fun _ _ _ _ hF => no_e (r := r) hF⟩
  | succ n ih => exact ⟨fun h hL hF => t_X5_latestMeal_0 E d (g_X5_latestMeal n) r ih.2.1  h hL hF, fun x1 x2 h hL hF => t_X5_latestMeal_1 E d (g_X5_latestMeal n) r ih.2.2 x1 x2 h hL hF, fun x2 y0 h hL hF => t_X5_latestMeal_2 E d (g_X5_latestMeal n) r ih.2.1 x2 y0 h hL hF⟩
theorem c_X5_latestMeal (d : Nat) (h : Hp) (r : Int × Hp) (hL : Lay h) (hF : f_X5_latestMeal  h = some r) : Sp mX5_latestMeal (d + 3) (0, 0) [xr 5 0] h (PoI r) :=
  sp_of (by decide) rfl (Nat.le_of_ble_eq_true rfl) (ls := [some (xr 5 0), none, none]) rfl (fun E _ => (u_X5_latestMeal E d r FU).1  h hL hF)
theorem dX6_isTooFar_0 : decode cX6_isTooFar 0 = .ok (.aload_n 0, 1) := by decide +kernel
theorem dX6_isTooFar_1 : decode cX6_isTooFar 1 = .ok (.getfield 31, 3) := by decide +kernel
theorem dX6_isTooFar_4 : decode cX6_isTooFar 4 = .ok (.getfield 39, 3) := by decide +kernel
theorem dX6_isTooFar_7 : decode cX6_isTooFar 7 = .ok (.getfield 45, 3) := by decide +kernel
theorem dX6_isTooFar_10 : decode cX6_isTooFar 10 = .ok (.astore_n 3, 1) := by decide +kernel
theorem dX6_isTooFar_11 : decode cX6_isTooFar 11 = .ok (.aload_n 3, 1) := by decide +kernel
theorem dX6_isTooFar_12 : decode cX6_isTooFar 12 = .ok (.aload_n 1, 1) := by decide +kernel
theorem dX6_isTooFar_13 : decode cX6_isTooFar 13 = .ok (.getfield 36, 3) := by decide +kernel
theorem dX6_isTooFar_16 : decode cX6_isTooFar 16 = .ok (.invokevirtual 107, 3) := by decide +kernel
theorem dX6_isTooFar_19 : decode cX6_isTooFar 19 = .ok (.ifCond .eq 19, 3) := by decide +kernel
theorem dX6_isTooFar_22 : decode cX6_isTooFar 22 = .ok (.aload_n 3, 1) := by decide +kernel
theorem dX6_isTooFar_23 : decode cX6_isTooFar 23 = .ok (.aload_n 1, 1) := by decide +kernel
theorem dX6_isTooFar_24 : decode cX6_isTooFar 24 = .ok (.getfield 36, 3) := by decide +kernel
theorem dX6_isTooFar_27 : decode cX6_isTooFar 27 = .ok (.invokevirtual 111, 3) := by decide +kernel
theorem dX6_isTooFar_30 : decode cX6_isTooFar 30 = .ok (.iload_n 2, 1) := by decide +kernel
theorem dX6_isTooFar_31 : decode cX6_isTooFar 31 = .ok (.if_icmp .le 7, 3) := by decide +kernel
theorem dX6_isTooFar_34 : decode cX6_isTooFar 34 = .ok (.iconst 1, 1) := by decide +kernel
theorem dX6_isTooFar_35 : decode cX6_isTooFar 35 = .ok (.goto 4, 3) := by decide +kernel
theorem dX6_isTooFar_38 : decode cX6_isTooFar 38 = .ok (.iconst 0, 1) := by decide +kernel
theorem dX6_isTooFar_39 : decode cX6_isTooFar 39 = .ok (.ireturn, 1) := by decide +kernel
noncomputable def b_X6_isTooFar_0 (rec : Rk) (x1 x2 : Int) (h : Hp) : Option (Int × Hp) :=
  rf (gR h 2 0 0) 0 fun j1 =>
  bd (f_X9_isWater j1 (gI h 10 x1 1) h) fun v2 h3 =>
  if v2 = 0 then (
    some (0, h3)
  ) else (
    bd (f_X9_fromBahia j1 (gI h3 10 x1 1) h3) fun v4 h5 =>
    if v4 ≤ x2 then (
      some (0, h5)
    ) else (
      some (1, h5)
    )
  )
noncomputable def g_X6_isTooFar (n : Nat) : Rk := Nat.rec (motive := fun _ => Rk) (fun _ _ _ => none) (fun _ rec k l h => if k = 0 then b_X6_isTooFar_0 rec (l.getD 0 0) (l.getD 1 0) h else none) n
noncomputable def f_X6_isTooFar (x1 x2 : Int) (h : Hp) : Option (Int × Hp) := g_X6_isTooFar FU 0 [x1, x2] h
set_option maxHeartbeats 4000000 in
set_option maxRecDepth 100000 in
theorem t_X6_isTooFar_0 (E : xE) (d : Nat) (rec : Rk) (r : Int × Hp) (x1 x2 : Int) (h : Hp) (hL : Lay h) (hF : b_X6_isTooFar_0 rec x1 x2 h = some r) : X E mX6_isTooFar (d + 3) (0, 0) (0, 0) 0 [some (xr 6 0), some (xr 10 x1), some (xi x2), none] [] h (PoI r) := by
  unfold b_X6_isTooFar_0 at hF
  refine x_aload_n (i := 0) (b := 1) dX6_isTooFar_0 rfl rfl rfl ?_
  refine x_getL (j := 0) (t := (2, 0, false)) (b := 4) fk_X6_31 dX6_isTooFar_1 rfl hL rfl rfl rfl ?_
  obtain ⟨j1, e_j1, hF⟩ := rf_e hF
  refine x_getR (v := some (0, j1)) (b := 7) fk_X6_39 dX6_isTooFar_4 rfl e_j1 rfl ?_
  refine x_getL (j := j1) (t := (9, 0, true)) (b := 10) fk_X6_45 dX6_isTooFar_7 rfl hL rfl rfl rfl ?_
  refine x_astore_n (i := 3) (b := 11) (ls2 := [some (xr 6 0), some (xr 10 x1), some (xi x2), some (xr 9 j1)]) dX6_isTooFar_10 rfl (Nat.le_of_ble_eq_true rfl) rfl rfl ?_
  refine x_aload_n (i := 3) (b := 12) dX6_isTooFar_11 rfl rfl rfl ?_
  refine x_aload_n (i := 1) (b := 13) dX6_isTooFar_12 rfl rfl rfl ?_
  refine x_getI (v := gI h 10 x1 1) (b := 16) fk_X6_36 dX6_isTooFar_13 (by decide) rfl rfl ?_
  obtain ⟨v2, h3, hq, hF⟩ := bd_e hF
  refine x_callV (as := [xi (gI h 10 x1 1)]) (rest := []) (b := 19) (c_X9_isWater d j1 (gI h 10 x1 1) h _ hL hq) dX6_isTooFar_16 cw_X6_107 ⟨_, _, rfl, Nat.le_of_ble_eq_true rfl⟩ rfl rfl (Nat.le_of_ble_eq_true rfl) ⟨Nat.le_refl _, Nat.le_refl _⟩ rfl (fun rv hh hp _ => ?_)
  obtain ⟨rfl, rfl, hL⟩ := hp
  refine x_if_eq (tgt := 38) (b := 22) dX6_isTooFar_19 (by decide) rfl (fun hc => ?_) (fun hc => ?_)
  · replace hF := br_T hc hF
    refine x_iconst (n := 0) (b := 39) dX6_isTooFar_38 (by decide) rfl ?_
    refine x_zreturn dX6_isTooFar_39 rfl ⟨Nat.le_refl _, Nat.le_refl _⟩ (by decide) ?_
    cases hF
    exact ⟨rfl, rfl, hL⟩
  · replace hF := br_F hc hF
    refine x_aload_n (i := 3) (b := 23) dX6_isTooFar_22 rfl rfl rfl ?_
    refine x_aload_n (i := 1) (b := 24) dX6_isTooFar_23 rfl rfl rfl ?_
    refine x_getI (v := gI h3 10 x1 1) (b := 27) fk_X6_36 dX6_isTooFar_24 (by decide) rfl rfl ?_
    obtain ⟨v4, h5, hq, hF⟩ := bd_e hF
    refine x_callV (as := [xi (gI h3 10 x1 1)]) (rest := []) (b := 30) (c_X9_fromBahia (d + 1) j1 (gI h3 10 x1 1) h3 _ hL hq) dX6_isTooFar_27 cw_X6_111 ⟨_, _, rfl, Nat.le_of_ble_eq_true rfl⟩ rfl rfl (Nat.le_of_ble_eq_true rfl) ⟨Nat.le_refl _, Nat.le_refl _⟩ rfl (fun rv hh hp _ => ?_)
    obtain ⟨rfl, rfl, hL⟩ := hp
    refine x_iload_n (i := 2) (b := 31) dX6_isTooFar_30 rfl rfl rfl ?_
    refine x_icmp_le (tgt := 38) (b := 34) dX6_isTooFar_31 (by decide) rfl (fun hc => ?_) (fun hc => ?_)
    · replace hF := br_T hc hF
      refine x_iconst (n := 0) (b := 39) dX6_isTooFar_38 (by decide) rfl ?_
      refine x_zreturn dX6_isTooFar_39 rfl ⟨Nat.le_refl _, Nat.le_refl _⟩ (by decide) ?_
      cases hF
      exact ⟨rfl, rfl, hL⟩
    · replace hF := br_F hc hF
      refine x_iconst (n := 1) (b := 35) dX6_isTooFar_34 (by decide) rfl ?_
      refine x_goto (tgt := 39) dX6_isTooFar_35 (by decide) ?_
      refine x_zreturn dX6_isTooFar_39 rfl ⟨Nat.le_refl _, Nat.le_refl _⟩ (by decide) ?_
      cases hF
      exact ⟨rfl, rfl, hL⟩
set_option maxHeartbeats 4000000 in
set_option maxRecDepth 100000 in
theorem u_X6_isTooFar (E : xE) (d : Nat) (r : Int × Hp) : ∀ n : Nat, (∀ (x1 x2 : Int) (h : Hp), Lay h → g_X6_isTooFar n 0 [x1, x2] h = some r → X E mX6_isTooFar (d + 3) (0, 0) (0, 0) 0 [some (xr 6 0), some (xr 10 x1), some (xi x2), none] [] h (PoI r)) := by
  intro n
  induction n with
  | zero => exact fun _ _ _ _ hF => no_e (r := r) hF
  | succ n ih => exact fun x1 x2 h hL hF => t_X6_isTooFar_0 E d (g_X6_isTooFar n) r  x1 x2 h hL hF
theorem c_X6_isTooFar (d : Nat) (x1 x2 : Int) (h : Hp) (r : Int × Hp) (hL : Lay h) (hF : f_X6_isTooFar x1 x2 h = some r) : Sp mX6_isTooFar (d + 3) (0, 0) [xr 6 0, xr 10 x1, xi x2] h (PoI r) :=
  sp_of (by decide) rfl (Nat.le_of_ble_eq_true rfl) (ls := [some (xr 6 0), some (xr 10 x1), some (xi x2), none]) rfl (fun E _ => (u_X6_isTooFar E d r FU) x1 x2 h hL hF)
theorem dX7_countKnot_0 : decode cX7_countKnot 0 = .ok (.aload_n 0, 1) := by decide +kernel
theorem dX7_countKnot_1 : decode cX7_countKnot 1 = .ok (.getfield 62, 3) := by decide +kernel
theorem dX7_countKnot_4 : decode cX7_countKnot 4 = .ok (.bipush 64, 2) := by decide +kernel
theorem dX7_countKnot_6 : decode cX7_countKnot 6 = .ok (.if_icmp .lt 13, 3) := by decide +kernel
theorem dX7_countKnot_9 : decode cX7_countKnot 9 = .ok (.aload_n 0, 1) := by decide +kernel
theorem dX7_countKnot_10 : decode cX7_countKnot 10 = .ok (.iconst 2, 1) := by decide +kernel
theorem dX7_countKnot_11 : decode cX7_countKnot 11 = .ok (.aload_n 0, 1) := by decide +kernel
theorem dX7_countKnot_12 : decode cX7_countKnot 12 = .ok (.getfield 29, 3) := by decide +kernel
theorem dX7_countKnot_15 : decode cX7_countKnot 15 = .ok (.invokevirtual 149, 3) := by decide +kernel
theorem dX7_countKnot_18 : decode cX7_countKnot 18 = .ok (.ireturn, 1) := by decide +kernel
theorem dX7_countKnot_19 : decode cX7_countKnot 19 = .ok (.aload_n 0, 1) := by decide +kernel
theorem dX7_countKnot_20 : decode cX7_countKnot 20 = .ok (.dup, 1) := by decide +kernel
theorem dX7_countKnot_21 : decode cX7_countKnot 21 = .ok (.getfield 62, 3) := by decide +kernel
theorem dX7_countKnot_24 : decode cX7_countKnot 24 = .ok (.iconst 1, 1) := by decide +kernel
theorem dX7_countKnot_25 : decode cX7_countKnot 25 = .ok (.iadd, 1) := by decide +kernel
theorem dX7_countKnot_26 : decode cX7_countKnot 26 = .ok (.putfield 62, 3) := by decide +kernel
theorem dX7_countKnot_29 : decode cX7_countKnot 29 = .ok (.iconst 1, 1) := by decide +kernel
theorem dX7_countKnot_30 : decode cX7_countKnot 30 = .ok (.ireturn, 1) := by decide +kernel
noncomputable def b_X7_countKnot_0 (rec : Rk) (h : Hp) : Option (Int × Hp) :=
  if (gI h 7 0 17) < 64 then (
    ck (-2147483648 ≤ (gI h 7 0 17) + 1 ∧ (gI h 7 0 17) + 1 < 2147483648) <|
    lt (sI h 7 0 17 ((gI h 7 0 17) + 1)) fun h1 =>
    some (1, h1)
  ) else (
    bd (f_X7_wrong 2 (gI h 7 0 7) h) fun v2 h3 =>
    ck (0 ≤ v2 ∧ v2 < 2) <|
    some (v2, h3)
  )
noncomputable def g_X7_countKnot (n : Nat) : Rk := Nat.rec (motive := fun _ => Rk) (fun _ _ _ => none) (fun _ rec k l h => if k = 0 then b_X7_countKnot_0 rec  h else none) n
noncomputable def f_X7_countKnot (h : Hp) : Option (Int × Hp) := g_X7_countKnot FU 0 [] h
set_option maxHeartbeats 4000000 in
set_option maxRecDepth 100000 in
theorem t_X7_countKnot_0 (E : xE) (d : Nat) (rec : Rk) (r : Int × Hp) (h : Hp) (hL : Lay h) (hF : b_X7_countKnot_0 rec  h = some r) : X E mX7_countKnot (d + 2) (0, 0) (0, 0) 0 [some (xr 7 0)] [] h (PoI r) := by
  unfold b_X7_countKnot_0 at hF
  refine x_aload_n (i := 0) (b := 1) dX7_countKnot_0 rfl rfl rfl ?_
  refine x_getI (v := gI h 7 0 17) (b := 4) fk_X7_62 dX7_countKnot_1 (by decide) rfl rfl ?_
  refine x_bipush (n := 64) (b := 6) dX7_countKnot_4 (by decide) rfl ?_
  refine x_icmp_lt (tgt := 19) (b := 9) dX7_countKnot_6 (by decide) rfl (fun hc => ?_) (fun hc => ?_)
  · replace hF := br_T hc hF
    refine x_aload_n (i := 0) (b := 20) dX7_countKnot_19 rfl rfl rfl ?_
    refine x_dup (b := 21) dX7_countKnot_20 rfl rfl ?_
    refine x_getI (v := gI h 7 0 17) (b := 24) fk_X7_62 dX7_countKnot_21 (by decide) rfl rfl ?_
    refine x_iconst (n := 1) (b := 25) dX7_countKnot_24 (by decide) rfl ?_
    obtain ⟨hs, hF⟩ := ck_e hF
    refine x_iadd (b := 26) dX7_countKnot_25 hs rfl ?_
    refine x_putI (b := 29) fk_X7_62 dX7_countKnot_26 rfl rfl 17 rfl ?_
    obtain ⟨h1, e_h1, hF⟩ := lt_e hF
    refine x_hp (h2 := h1) e_h1 ?_
    replace hL : Lay h1 := by rw [← e_h1]; exact hL
    refine x_iconst (n := 1) (b := 30) dX7_countKnot_29 (by decide) rfl ?_
    refine x_zreturn dX7_countKnot_30 rfl ⟨Nat.le_refl _, Nat.le_refl _⟩ (by decide) ?_
    cases hF
    exact ⟨rfl, rfl, hL⟩
  · replace hF := br_F hc hF
    refine x_aload_n (i := 0) (b := 10) dX7_countKnot_9 rfl rfl rfl ?_
    refine x_iconst (n := 2) (b := 11) dX7_countKnot_10 (by decide) rfl ?_
    refine x_aload_n (i := 0) (b := 12) dX7_countKnot_11 rfl rfl rfl ?_
    refine x_getI (v := gI h 7 0 7) (b := 15) fk_X7_29 dX7_countKnot_12 (by decide) rfl rfl ?_
    obtain ⟨v2, h3, hq, hF⟩ := bd_e hF
    refine x_callV (as := [xi 2, xi (gI h 7 0 7)]) (rest := []) (b := 18) (c_X7_wrong d 2 (gI h 7 0 7) h _ hL hq) dX7_countKnot_15 cw_X7_149 ⟨_, _, rfl, Nat.le_of_ble_eq_true rfl⟩ rfl rfl (Nat.le_of_ble_eq_true rfl) ⟨Nat.le_refl _, Nat.le_refl _⟩ rfl (fun rv hh hp _ => ?_)
    obtain ⟨rfl, rfl, hL⟩ := hp
    obtain ⟨hs, hF⟩ := ck_e hF
    refine x_zreturn dX7_countKnot_18 rfl ⟨Nat.le_refl _, Nat.le_refl _⟩ hs ?_
    cases hF
    exact ⟨rfl, rfl, hL⟩
set_option maxHeartbeats 4000000 in
set_option maxRecDepth 100000 in
theorem u_X7_countKnot (E : xE) (d : Nat) (r : Int × Hp) : ∀ n : Nat, (∀ (h : Hp), Lay h → g_X7_countKnot n 0 [] h = some r → X E mX7_countKnot (d + 2) (0, 0) (0, 0) 0 [some (xr 7 0)] [] h (PoI r)) := by
  intro n
  induction n with
  | zero => exact fun _ _ hF => no_e (r := r) hF
  | succ n ih => exact fun h hL hF => t_X7_countKnot_0 E d (g_X7_countKnot n) r   h hL hF
theorem c_X7_countKnot (d : Nat) (h : Hp) (r : Int × Hp) (hL : Lay h) (hF : f_X7_countKnot  h = some r) : Sp mX7_countKnot (d + 2) (0, 0) [xr 7 0] h (PoI r) :=
  sp_of (by decide) rfl (Nat.le_of_ble_eq_true rfl) (ls := [some (xr 7 0)]) rfl (fun E _ => (u_X7_countKnot E d r FU)  h hL hF)
theorem dX7_defer_0 : decode cX7_defer 0 = .ok (.aload_n 0, 1) := by decide +kernel
theorem dX7_defer_1 : decode cX7_defer 1 = .ok (.getfield 56, 3) := by decide +kernel
theorem dX7_defer_4 : decode cX7_defer 4 = .ok (.ifCond .lt 15, 3) := by decide +kernel
theorem dX7_defer_7 : decode cX7_defer 7 = .ok (.aload_n 0, 1) := by decide +kernel
theorem dX7_defer_8 : decode cX7_defer 8 = .ok (.getfield 56, 3) := by decide +kernel
theorem dX7_defer_11 : decode cX7_defer 11 = .ok (.aload_n 0, 1) := by decide +kernel
theorem dX7_defer_12 : decode cX7_defer 12 = .ok (.getfield 52, 3) := by decide +kernel
theorem dX7_defer_15 : decode cX7_defer 15 = .ok (.arraylength, 1) := by decide +kernel
theorem dX7_defer_16 : decode cX7_defer 16 = .ok (.if_icmp .lt 13, 3) := by decide +kernel
theorem dX7_defer_19 : decode cX7_defer 19 = .ok (.aload_n 0, 1) := by decide +kernel
theorem dX7_defer_20 : decode cX7_defer 20 = .ok (.iconst 2, 1) := by decide +kernel
theorem dX7_defer_21 : decode cX7_defer 21 = .ok (.aload_n 0, 1) := by decide +kernel
theorem dX7_defer_22 : decode cX7_defer 22 = .ok (.getfield 29, 3) := by decide +kernel
theorem dX7_defer_25 : decode cX7_defer 25 = .ok (.invokevirtual 149, 3) := by decide +kernel
theorem dX7_defer_28 : decode cX7_defer 28 = .ok (.ireturn, 1) := by decide +kernel
theorem dX7_defer_29 : decode cX7_defer 29 = .ok (.aload_n 0, 1) := by decide +kernel
theorem dX7_defer_30 : decode cX7_defer 30 = .ok (.getfield 52, 3) := by decide +kernel
theorem dX7_defer_33 : decode cX7_defer 33 = .ok (.aload_n 0, 1) := by decide +kernel
theorem dX7_defer_34 : decode cX7_defer 34 = .ok (.getfield 56, 3) := by decide +kernel
theorem dX7_defer_37 : decode cX7_defer 37 = .ok (.iload_n 1, 1) := by decide +kernel
theorem dX7_defer_38 : decode cX7_defer 38 = .ok (.iastore, 1) := by decide +kernel
theorem dX7_defer_39 : decode cX7_defer 39 = .ok (.aload_n 0, 1) := by decide +kernel
theorem dX7_defer_40 : decode cX7_defer 40 = .ok (.dup, 1) := by decide +kernel
theorem dX7_defer_41 : decode cX7_defer 41 = .ok (.getfield 56, 3) := by decide +kernel
theorem dX7_defer_44 : decode cX7_defer 44 = .ok (.iconst 1, 1) := by decide +kernel
theorem dX7_defer_45 : decode cX7_defer 45 = .ok (.iadd, 1) := by decide +kernel
theorem dX7_defer_46 : decode cX7_defer 46 = .ok (.putfield 56, 3) := by decide +kernel
theorem dX7_defer_49 : decode cX7_defer 49 = .ok (.iconst 1, 1) := by decide +kernel
theorem dX7_defer_50 : decode cX7_defer 50 = .ok (.ireturn, 1) := by decide +kernel
noncomputable def b_X7_defer_0 (rec : Rk) (x1 : Int) (h : Hp) : Option (Int × Hp) :=
  if (gI h 7 0 15) < 0 then (
    rec 1 [] h
  ) else (
    if (gI h 7 0 15) < 72 then (
      ck (0 ≤ (gI h 7 0 15) ∧ (gI h 7 0 15) < 72) <|
      lt (sI h 46 0 (gI h 7 0 15) x1) fun h1 =>
      ck (-2147483648 ≤ (gI h1 7 0 15) + 1 ∧ (gI h1 7 0 15) + 1 < 2147483648) <|
      lt (sI h1 7 0 15 ((gI h1 7 0 15) + 1)) fun h2 =>
      some (1, h2)
    ) else (
      rec 1 [] h
    )
  )
noncomputable def b_X7_defer_1 (rec : Rk) (h : Hp) : Option (Int × Hp) :=
  bd (f_X7_wrong 2 (gI h 7 0 7) h) fun v1 h2 =>
  ck (0 ≤ v1 ∧ v1 < 2) <|
  some (v1, h2)
noncomputable def g_X7_defer (n : Nat) : Rk := Nat.rec (motive := fun _ => Rk) (fun _ _ _ => none) (fun _ rec k l h => if k = 0 then b_X7_defer_0 rec (l.getD 0 0) h else if k = 1 then b_X7_defer_1 rec  h else none) n
noncomputable def f_X7_defer (x1 : Int) (h : Hp) : Option (Int × Hp) := g_X7_defer FU 0 [x1] h
set_option maxHeartbeats 4000000 in
set_option maxRecDepth 100000 in
theorem t_X7_defer_0 (E : xE) (d : Nat) (rec : Rk) (r : Int × Hp) (hr_19 : ∀ (h : Hp), Lay h → rec 1 [] h = some r → X E mX7_defer (d + 2) (0, 0) (0, 0) 19 [some (xr 7 0), none] [] h (PoI r)) (x1 : Int) (h : Hp) (hL : Lay h) (hF : b_X7_defer_0 rec x1 h = some r) : X E mX7_defer (d + 2) (0, 0) (0, 0) 0 [some (xr 7 0), some (xi x1)] [] h (PoI r) := by
  unfold b_X7_defer_0 at hF
  refine x_aload_n (i := 0) (b := 1) dX7_defer_0 rfl rfl rfl ?_
  refine x_getI (v := gI h 7 0 15) (b := 4) fk_X7_56 dX7_defer_1 (by decide) rfl rfl ?_
  refine x_if_lt (tgt := 19) (b := 7) dX7_defer_4 (by decide) rfl (fun hc => ?_) (fun hc => ?_)
  · replace hF := br_T hc hF
    exact x_dp (ls2 := [some (xr 7 0), none]) ⟨rfl, trivial⟩ (hr_19  h hL hF)
  · replace hF := br_F hc hF
    refine x_aload_n (i := 0) (b := 8) dX7_defer_7 rfl rfl rfl ?_
    refine x_getI (v := gI h 7 0 15) (b := 11) fk_X7_56 dX7_defer_8 (by decide) rfl rfl ?_
    refine x_aload_n (i := 0) (b := 12) dX7_defer_11 rfl rfl rfl ?_
    refine x_getL (j := 0) (t := (46, 0, true)) (b := 15) fk_X7_52 dX7_defer_12 rfl hL rfl rfl rfl ?_
    refine x_alen (kind := 0) (ct := 0) (b := 16) ak_46 (by decide) dX7_defer_15 rfl ?_
    refine x_eq (y := 72) rfl ?_
    refine x_icmp_lt (tgt := 29) (b := 19) dX7_defer_16 (by decide) rfl (fun hc => ?_) (fun hc => ?_)
    · replace hF := br_T hc hF
      refine x_aload_n (i := 0) (b := 30) dX7_defer_29 rfl rfl rfl ?_
      refine x_getL (j := 0) (t := (46, 0, true)) (b := 33) fk_X7_52 dX7_defer_30 rfl hL rfl rfl rfl ?_
      refine x_aload_n (i := 0) (b := 34) dX7_defer_33 rfl rfl rfl ?_
      refine x_getI (v := gI h 7 0 15) (b := 37) fk_X7_56 dX7_defer_34 (by decide) rfl rfl ?_
      refine x_iload_n (i := 1) (b := 38) dX7_defer_37 rfl rfl rfl ?_
      obtain ⟨hs, hF⟩ := ck_e hF
      have hs1 := hs
      refine x_iast (b := 39) ak_46 dX7_defer_38 hs1 rfl ?_
      obtain ⟨h1, e_h1, hF⟩ := lt_e hF
      refine x_hp (h2 := h1) e_h1 ?_
      replace hL : Lay h1 := by rw [← e_h1]; exact hL
      refine x_aload_n (i := 0) (b := 40) dX7_defer_39 rfl rfl rfl ?_
      refine x_dup (b := 41) dX7_defer_40 rfl rfl ?_
      refine x_getI (v := gI h1 7 0 15) (b := 44) fk_X7_56 dX7_defer_41 (by decide) rfl rfl ?_
      refine x_iconst (n := 1) (b := 45) dX7_defer_44 (by decide) rfl ?_
      obtain ⟨hs, hF⟩ := ck_e hF
      refine x_iadd (b := 46) dX7_defer_45 hs rfl ?_
      refine x_putI (b := 49) fk_X7_56 dX7_defer_46 rfl rfl 15 rfl ?_
      obtain ⟨h2, e_h2, hF⟩ := lt_e hF
      refine x_hp (h2 := h2) e_h2 ?_
      replace hL : Lay h2 := by rw [← e_h2]; exact hL
      refine x_iconst (n := 1) (b := 50) dX7_defer_49 (by decide) rfl ?_
      refine x_zreturn dX7_defer_50 rfl ⟨Nat.le_refl _, Nat.le_refl _⟩ (by decide) ?_
      cases hF
      exact ⟨rfl, rfl, hL⟩
    · replace hF := br_F hc hF
      exact x_dp (ls2 := [some (xr 7 0), none]) ⟨rfl, trivial⟩ (hr_19  h hL hF)
set_option maxHeartbeats 4000000 in
set_option maxRecDepth 100000 in
theorem t_X7_defer_1 (E : xE) (d : Nat) (rec : Rk) (r : Int × Hp) (h : Hp) (hL : Lay h) (hF : b_X7_defer_1 rec  h = some r) : X E mX7_defer (d + 2) (0, 0) (0, 0) 19 [some (xr 7 0), none] [] h (PoI r) := by
  unfold b_X7_defer_1 at hF
  refine x_aload_n (i := 0) (b := 20) dX7_defer_19 rfl rfl rfl ?_
  refine x_iconst (n := 2) (b := 21) dX7_defer_20 (by decide) rfl ?_
  refine x_aload_n (i := 0) (b := 22) dX7_defer_21 rfl rfl rfl ?_
  refine x_getI (v := gI h 7 0 7) (b := 25) fk_X7_29 dX7_defer_22 (by decide) rfl rfl ?_
  obtain ⟨v1, h2, hq, hF⟩ := bd_e hF
  refine x_callV (as := [xi 2, xi (gI h 7 0 7)]) (rest := []) (b := 28) (c_X7_wrong d 2 (gI h 7 0 7) h _ hL hq) dX7_defer_25 cw_X7_149 ⟨_, _, rfl, Nat.le_of_ble_eq_true rfl⟩ rfl rfl (Nat.le_of_ble_eq_true rfl) ⟨Nat.le_refl _, Nat.le_refl _⟩ rfl (fun rv hh hp _ => ?_)
  obtain ⟨rfl, rfl, hL⟩ := hp
  obtain ⟨hs, hF⟩ := ck_e hF
  refine x_zreturn dX7_defer_28 rfl ⟨Nat.le_refl _, Nat.le_refl _⟩ hs ?_
  cases hF
  exact ⟨rfl, rfl, hL⟩
set_option maxHeartbeats 4000000 in
set_option maxRecDepth 100000 in
theorem u_X7_defer (E : xE) (d : Nat) (r : Int × Hp) : ∀ n : Nat, (∀ (x1 : Int) (h : Hp), Lay h → g_X7_defer n 0 [x1] h = some r → X E mX7_defer (d + 2) (0, 0) (0, 0) 0 [some (xr 7 0), some (xi x1)] [] h (PoI r)) ∧ (∀ (h : Hp), Lay h → g_X7_defer n 1 [] h = some r → X E mX7_defer (d + 2) (0, 0) (0, 0) 19 [some (xr 7 0), none] [] h (PoI r)) := by
  intro n
  induction n with
  | zero => exact ⟨fun _ _ _ hF => no_e (r := r) hF, fun _ _ hF => no_e (r := r) hF⟩
  | succ n ih => exact ⟨fun x1 h hL hF => t_X7_defer_0 E d (g_X7_defer n) r ih.2 x1 h hL hF, fun h hL hF => t_X7_defer_1 E d (g_X7_defer n) r   h hL hF⟩
theorem c_X7_defer (d : Nat) (x1 : Int) (h : Hp) (r : Int × Hp) (hL : Lay h) (hF : f_X7_defer x1 h = some r) : Sp mX7_defer (d + 2) (0, 0) [xr 7 0, xi x1] h (PoI r) :=
  sp_of (by decide) rfl (Nat.le_of_ble_eq_true rfl) (ls := [some (xr 7 0), some (xi x1)]) rfl (fun E _ => (u_X7_defer E d r FU).1 x1 h hL hF)
theorem dX7_endLine_0 : decode cX7_endLine 0 = .ok (.aload_n 0, 1) := by decide +kernel
theorem dX7_endLine_1 : decode cX7_endLine 1 = .ok (.getfield 38, 3) := by decide +kernel
theorem dX7_endLine_4 : decode cX7_endLine 4 = .ok (.bipush 17, 2) := by decide +kernel
theorem dX7_endLine_6 : decode cX7_endLine 6 = .ok (.if_icmp .eq 13, 3) := by decide +kernel
theorem dX7_endLine_9 : decode cX7_endLine 9 = .ok (.aload_n 0, 1) := by decide +kernel
theorem dX7_endLine_10 : decode cX7_endLine 10 = .ok (.iconst 1, 1) := by decide +kernel
theorem dX7_endLine_11 : decode cX7_endLine 11 = .ok (.aload_n 0, 1) := by decide +kernel
theorem dX7_endLine_12 : decode cX7_endLine 12 = .ok (.getfield 29, 3) := by decide +kernel
theorem dX7_endLine_15 : decode cX7_endLine 15 = .ok (.invokevirtual 149, 3) := by decide +kernel
theorem dX7_endLine_18 : decode cX7_endLine 18 = .ok (.ireturn, 1) := by decide +kernel
theorem dX7_endLine_19 : decode cX7_endLine 19 = .ok (.aload_n 0, 1) := by decide +kernel
theorem dX7_endLine_20 : decode cX7_endLine 20 = .ok (.invokevirtual 89, 3) := by decide +kernel
theorem dX7_endLine_23 : decode cX7_endLine 23 = .ok (.iconst 1, 1) := by decide +kernel
theorem dX7_endLine_24 : decode cX7_endLine 24 = .ok (.ireturn, 1) := by decide +kernel
noncomputable def b_X7_endLine_0 (rec : Rk) (h : Hp) : Option (Int × Hp) :=
  if (gI h 7 0 10) = 17 then (
    bd (f_X7_advance h) fun v1 h2 =>
    some (1, h2)
  ) else (
    bd (f_X7_wrong 1 (gI h 7 0 7) h) fun v3 h4 =>
    ck (0 ≤ v3 ∧ v3 < 2) <|
    some (v3, h4)
  )
noncomputable def g_X7_endLine (n : Nat) : Rk := Nat.rec (motive := fun _ => Rk) (fun _ _ _ => none) (fun _ rec k l h => if k = 0 then b_X7_endLine_0 rec  h else none) n
noncomputable def f_X7_endLine (h : Hp) : Option (Int × Hp) := g_X7_endLine FU 0 [] h
set_option maxHeartbeats 4000000 in
set_option maxRecDepth 100000 in
theorem t_X7_endLine_0 (E : xE) (d : Nat) (rec : Rk) (r : Int × Hp) (h : Hp) (hL : Lay h) (hF : b_X7_endLine_0 rec  h = some r) : X E mX7_endLine (d + 2) (0, 0) (0, 0) 0 [some (xr 7 0)] [] h (PoI r) := by
  unfold b_X7_endLine_0 at hF
  refine x_aload_n (i := 0) (b := 1) dX7_endLine_0 rfl rfl rfl ?_
  refine x_getI (v := gI h 7 0 10) (b := 4) fk_X7_38 dX7_endLine_1 (by decide) rfl rfl ?_
  refine x_bipush (n := 17) (b := 6) dX7_endLine_4 (by decide) rfl ?_
  refine x_icmp_eq (tgt := 19) (b := 9) dX7_endLine_6 (by decide) rfl (fun hc => ?_) (fun hc => ?_)
  · replace hF := br_T hc hF
    refine x_aload_n (i := 0) (b := 20) dX7_endLine_19 rfl rfl rfl ?_
    obtain ⟨v1, h2, hq, hF⟩ := bd_e hF
    refine x_callV (as := []) (rest := []) (b := 23) (c_X7_advance d h _ hL hq) dX7_endLine_20 cw_X7_89 ⟨_, _, rfl, Nat.le_of_ble_eq_true rfl⟩ rfl rfl (Nat.le_of_ble_eq_true rfl) ⟨Nat.le_refl _, Nat.le_refl _⟩ rfl (fun rv hh hp _ => ?_)
    obtain ⟨rfl, rfl, hL⟩ := hp
    refine x_iconst (n := 1) (b := 24) dX7_endLine_23 (by decide) rfl ?_
    refine x_zreturn dX7_endLine_24 rfl ⟨Nat.le_refl _, Nat.le_refl _⟩ (by decide) ?_
    cases hF
    exact ⟨rfl, rfl, hL⟩
  · replace hF := br_F hc hF
    refine x_aload_n (i := 0) (b := 10) dX7_endLine_9 rfl rfl rfl ?_
    refine x_iconst (n := 1) (b := 11) dX7_endLine_10 (by decide) rfl ?_
    refine x_aload_n (i := 0) (b := 12) dX7_endLine_11 rfl rfl rfl ?_
    refine x_getI (v := gI h 7 0 7) (b := 15) fk_X7_29 dX7_endLine_12 (by decide) rfl rfl ?_
    obtain ⟨v3, h4, hq, hF⟩ := bd_e hF
    refine x_callV (as := [xi 1, xi (gI h 7 0 7)]) (rest := []) (b := 18) (c_X7_wrong d 1 (gI h 7 0 7) h _ hL hq) dX7_endLine_15 cw_X7_149 ⟨_, _, rfl, Nat.le_of_ble_eq_true rfl⟩ rfl rfl (Nat.le_of_ble_eq_true rfl) ⟨Nat.le_refl _, Nat.le_refl _⟩ rfl (fun rv hh hp _ => ?_)
    obtain ⟨rfl, rfl, hL⟩ := hp
    obtain ⟨hs, hF⟩ := ck_e hF
    refine x_zreturn dX7_endLine_18 rfl ⟨Nat.le_refl _, Nat.le_refl _⟩ hs ?_
    cases hF
    exact ⟨rfl, rfl, hL⟩
set_option maxHeartbeats 4000000 in
set_option maxRecDepth 100000 in
theorem u_X7_endLine (E : xE) (d : Nat) (r : Int × Hp) : ∀ n : Nat, (∀ (h : Hp), Lay h → g_X7_endLine n 0 [] h = some r → X E mX7_endLine (d + 2) (0, 0) (0, 0) 0 [some (xr 7 0)] [] h (PoI r)) := by
  intro n
  induction n with
  | zero => exact fun _ _ hF => no_e (r := r) hF
  | succ n ih => exact fun h hL hF => t_X7_endLine_0 E d (g_X7_endLine n) r   h hL hF
theorem c_X7_endLine (d : Nat) (h : Hp) (r : Int × Hp) (hL : Lay h) (hF : f_X7_endLine  h = some r) : Sp mX7_endLine (d + 2) (0, 0) [xr 7 0] h (PoI r) :=
  sp_of (by decide) rfl (Nat.le_of_ble_eq_true rfl) (ls := [some (xr 7 0)]) rfl (fun E _ => (u_X7_endLine E d r FU)  h hL hF)
theorem dX7_readNumber_0 : decode cX7_readNumber 0 = .ok (.aload_n 0, 1) := by decide +kernel
theorem dX7_readNumber_1 : decode cX7_readNumber 1 = .ok (.getfield 26, 3) := by decide +kernel
theorem dX7_readNumber_4 : decode cX7_readNumber 4 = .ok (.iconst 3, 1) := by decide +kernel
theorem dX7_readNumber_5 : decode cX7_readNumber 5 = .ok (.if_icmp .eq 13, 3) := by decide +kernel
theorem dX7_readNumber_8 : decode cX7_readNumber 8 = .ok (.aload_n 0, 1) := by decide +kernel
theorem dX7_readNumber_9 : decode cX7_readNumber 9 = .ok (.iconst 1, 1) := by decide +kernel
theorem dX7_readNumber_10 : decode cX7_readNumber 10 = .ok (.aload_n 0, 1) := by decide +kernel
theorem dX7_readNumber_11 : decode cX7_readNumber 11 = .ok (.getfield 29, 3) := by decide +kernel
theorem dX7_readNumber_14 : decode cX7_readNumber 14 = .ok (.invokevirtual 149, 3) := by decide +kernel
theorem dX7_readNumber_17 : decode cX7_readNumber 17 = .ok (.ireturn, 1) := by decide +kernel
theorem dX7_readNumber_18 : decode cX7_readNumber 18 = .ok (.aload_n 0, 1) := by decide +kernel
theorem dX7_readNumber_19 : decode cX7_readNumber 19 = .ok (.getfield 32, 3) := by decide +kernel
theorem dX7_readNumber_22 : decode cX7_readNumber 22 = .ok (.iload_n 1, 1) := by decide +kernel
theorem dX7_readNumber_23 : decode cX7_readNumber 23 = .ok (.if_icmp .lt 11, 3) := by decide +kernel
theorem dX7_readNumber_26 : decode cX7_readNumber 26 = .ok (.aload_n 0, 1) := by decide +kernel
theorem dX7_readNumber_27 : decode cX7_readNumber 27 = .ok (.getfield 32, 3) := by decide +kernel
theorem dX7_readNumber_30 : decode cX7_readNumber 30 = .ok (.iload_n 2, 1) := by decide +kernel
theorem dX7_readNumber_31 : decode cX7_readNumber 31 = .ok (.if_icmp .le 13, 3) := by decide +kernel
theorem dX7_readNumber_34 : decode cX7_readNumber 34 = .ok (.aload_n 0, 1) := by decide +kernel
theorem dX7_readNumber_35 : decode cX7_readNumber 35 = .ok (.iconst 2, 1) := by decide +kernel
theorem dX7_readNumber_36 : decode cX7_readNumber 36 = .ok (.aload_n 0, 1) := by decide +kernel
theorem dX7_readNumber_37 : decode cX7_readNumber 37 = .ok (.getfield 29, 3) := by decide +kernel
theorem dX7_readNumber_40 : decode cX7_readNumber 40 = .ok (.invokevirtual 149, 3) := by decide +kernel
theorem dX7_readNumber_43 : decode cX7_readNumber 43 = .ok (.ireturn, 1) := by decide +kernel
theorem dX7_readNumber_44 : decode cX7_readNumber 44 = .ok (.aload_n 0, 1) := by decide +kernel
theorem dX7_readNumber_45 : decode cX7_readNumber 45 = .ok (.aload_n 0, 1) := by decide +kernel
theorem dX7_readNumber_46 : decode cX7_readNumber 46 = .ok (.getfield 32, 3) := by decide +kernel
theorem dX7_readNumber_49 : decode cX7_readNumber 49 = .ok (.putfield 41, 3) := by decide +kernel
theorem dX7_readNumber_52 : decode cX7_readNumber 52 = .ok (.aload_n 0, 1) := by decide +kernel
theorem dX7_readNumber_53 : decode cX7_readNumber 53 = .ok (.aload_n 0, 1) := by decide +kernel
theorem dX7_readNumber_54 : decode cX7_readNumber 54 = .ok (.getfield 29, 3) := by decide +kernel
theorem dX7_readNumber_57 : decode cX7_readNumber 57 = .ok (.putfield 44, 3) := by decide +kernel
theorem dX7_readNumber_60 : decode cX7_readNumber 60 = .ok (.aload_n 0, 1) := by decide +kernel
theorem dX7_readNumber_61 : decode cX7_readNumber 61 = .ok (.invokevirtual 89, 3) := by decide +kernel
theorem dX7_readNumber_64 : decode cX7_readNumber 64 = .ok (.iconst 1, 1) := by decide +kernel
theorem dX7_readNumber_65 : decode cX7_readNumber 65 = .ok (.ireturn, 1) := by decide +kernel
noncomputable def b_X7_readNumber_0 (rec : Rk) (x1 x2 : Int) (h : Hp) : Option (Int × Hp) :=
  if (gI h 7 0 6) = 3 then (
    if (gI h 7 0 8) < x1 then (
      rec 1 [] h
    ) else (
      if (gI h 7 0 8) ≤ x2 then (
        lt (sI h 7 0 11 (gI h 7 0 8)) fun h1 =>
        lt (sI h1 7 0 12 (gI h1 7 0 7)) fun h2 =>
        bd (f_X7_advance h2) fun v3 h4 =>
        some (1, h4)
      ) else (
        rec 1 [] h
      )
    )
  ) else (
    bd (f_X7_wrong 1 (gI h 7 0 7) h) fun v5 h6 =>
    ck (0 ≤ v5 ∧ v5 < 2) <|
    some (v5, h6)
  )
noncomputable def b_X7_readNumber_1 (rec : Rk) (h : Hp) : Option (Int × Hp) :=
  bd (f_X7_wrong 2 (gI h 7 0 7) h) fun v1 h2 =>
  ck (0 ≤ v1 ∧ v1 < 2) <|
  some (v1, h2)
noncomputable def g_X7_readNumber (n : Nat) : Rk := Nat.rec (motive := fun _ => Rk) (fun _ _ _ => none) (fun _ rec k l h => if k = 0 then b_X7_readNumber_0 rec (l.getD 0 0) (l.getD 1 0) h else if k = 1 then b_X7_readNumber_1 rec  h else none) n
noncomputable def f_X7_readNumber (x1 x2 : Int) (h : Hp) : Option (Int × Hp) := g_X7_readNumber FU 0 [x1, x2] h
set_option maxHeartbeats 4000000 in
set_option maxRecDepth 100000 in
theorem t_X7_readNumber_0 (E : xE) (d : Nat) (rec : Rk) (r : Int × Hp) (hr_34 : ∀ (h : Hp), Lay h → rec 1 [] h = some r → X E mX7_readNumber (d + 2) (0, 0) (0, 0) 34 [some (xr 7 0), none, none] [] h (PoI r)) (x1 x2 : Int) (h : Hp) (hL : Lay h) (hF : b_X7_readNumber_0 rec x1 x2 h = some r) : X E mX7_readNumber (d + 2) (0, 0) (0, 0) 0 [some (xr 7 0), some (xi x1), some (xi x2)] [] h (PoI r) := by
  unfold b_X7_readNumber_0 at hF
  refine x_aload_n (i := 0) (b := 1) dX7_readNumber_0 rfl rfl rfl ?_
  refine x_getI (v := gI h 7 0 6) (b := 4) fk_X7_26 dX7_readNumber_1 (by decide) rfl rfl ?_
  refine x_iconst (n := 3) (b := 5) dX7_readNumber_4 (by decide) rfl ?_
  refine x_icmp_eq (tgt := 18) (b := 8) dX7_readNumber_5 (by decide) rfl (fun hc => ?_) (fun hc => ?_)
  · replace hF := br_T hc hF
    refine x_aload_n (i := 0) (b := 19) dX7_readNumber_18 rfl rfl rfl ?_
    refine x_getI (v := gI h 7 0 8) (b := 22) fk_X7_32 dX7_readNumber_19 (by decide) rfl rfl ?_
    refine x_iload_n (i := 1) (b := 23) dX7_readNumber_22 rfl rfl rfl ?_
    refine x_icmp_lt (tgt := 34) (b := 26) dX7_readNumber_23 (by decide) rfl (fun hc => ?_) (fun hc => ?_)
    · replace hF := br_T hc hF
      exact x_dp (ls2 := [some (xr 7 0), none, none]) ⟨rfl, trivial⟩ (hr_34  h hL hF)
    · replace hF := br_F hc hF
      refine x_aload_n (i := 0) (b := 27) dX7_readNumber_26 rfl rfl rfl ?_
      refine x_getI (v := gI h 7 0 8) (b := 30) fk_X7_32 dX7_readNumber_27 (by decide) rfl rfl ?_
      refine x_iload_n (i := 2) (b := 31) dX7_readNumber_30 rfl rfl rfl ?_
      refine x_icmp_le (tgt := 44) (b := 34) dX7_readNumber_31 (by decide) rfl (fun hc => ?_) (fun hc => ?_)
      · replace hF := br_T hc hF
        refine x_aload_n (i := 0) (b := 45) dX7_readNumber_44 rfl rfl rfl ?_
        refine x_aload_n (i := 0) (b := 46) dX7_readNumber_45 rfl rfl rfl ?_
        refine x_getI (v := gI h 7 0 8) (b := 49) fk_X7_32 dX7_readNumber_46 (by decide) rfl rfl ?_
        refine x_putI (b := 52) fk_X7_41 dX7_readNumber_49 rfl rfl 11 rfl ?_
        obtain ⟨h1, e_h1, hF⟩ := lt_e hF
        refine x_hp (h2 := h1) e_h1 ?_
        replace hL : Lay h1 := by rw [← e_h1]; exact hL
        refine x_aload_n (i := 0) (b := 53) dX7_readNumber_52 rfl rfl rfl ?_
        refine x_aload_n (i := 0) (b := 54) dX7_readNumber_53 rfl rfl rfl ?_
        refine x_getI (v := gI h1 7 0 7) (b := 57) fk_X7_29 dX7_readNumber_54 (by decide) rfl rfl ?_
        refine x_putI (b := 60) fk_X7_44 dX7_readNumber_57 rfl rfl 12 rfl ?_
        obtain ⟨h2, e_h2, hF⟩ := lt_e hF
        refine x_hp (h2 := h2) e_h2 ?_
        replace hL : Lay h2 := by rw [← e_h2]; exact hL
        refine x_aload_n (i := 0) (b := 61) dX7_readNumber_60 rfl rfl rfl ?_
        obtain ⟨v3, h4, hq, hF⟩ := bd_e hF
        refine x_callV (as := []) (rest := []) (b := 64) (c_X7_advance d h2 _ hL hq) dX7_readNumber_61 cw_X7_89 ⟨_, _, rfl, Nat.le_of_ble_eq_true rfl⟩ rfl rfl (Nat.le_of_ble_eq_true rfl) ⟨Nat.le_refl _, Nat.le_refl _⟩ rfl (fun rv hh hp _ => ?_)
        obtain ⟨rfl, rfl, hL⟩ := hp
        refine x_iconst (n := 1) (b := 65) dX7_readNumber_64 (by decide) rfl ?_
        refine x_zreturn dX7_readNumber_65 rfl ⟨Nat.le_refl _, Nat.le_refl _⟩ (by decide) ?_
        cases hF
        exact ⟨rfl, rfl, hL⟩
      · replace hF := br_F hc hF
        exact x_dp (ls2 := [some (xr 7 0), none, none]) ⟨rfl, trivial⟩ (hr_34  h hL hF)
  · replace hF := br_F hc hF
    refine x_aload_n (i := 0) (b := 9) dX7_readNumber_8 rfl rfl rfl ?_
    refine x_iconst (n := 1) (b := 10) dX7_readNumber_9 (by decide) rfl ?_
    refine x_aload_n (i := 0) (b := 11) dX7_readNumber_10 rfl rfl rfl ?_
    refine x_getI (v := gI h 7 0 7) (b := 14) fk_X7_29 dX7_readNumber_11 (by decide) rfl rfl ?_
    obtain ⟨v5, h6, hq, hF⟩ := bd_e hF
    refine x_callV (as := [xi 1, xi (gI h 7 0 7)]) (rest := []) (b := 17) (c_X7_wrong d 1 (gI h 7 0 7) h _ hL hq) dX7_readNumber_14 cw_X7_149 ⟨_, _, rfl, Nat.le_of_ble_eq_true rfl⟩ rfl rfl (Nat.le_of_ble_eq_true rfl) ⟨Nat.le_refl _, Nat.le_refl _⟩ rfl (fun rv hh hp _ => ?_)
    obtain ⟨rfl, rfl, hL⟩ := hp
    obtain ⟨hs, hF⟩ := ck_e hF
    refine x_zreturn dX7_readNumber_17 rfl ⟨Nat.le_refl _, Nat.le_refl _⟩ hs ?_
    cases hF
    exact ⟨rfl, rfl, hL⟩
set_option maxHeartbeats 4000000 in
set_option maxRecDepth 100000 in
theorem t_X7_readNumber_1 (E : xE) (d : Nat) (rec : Rk) (r : Int × Hp) (h : Hp) (hL : Lay h) (hF : b_X7_readNumber_1 rec  h = some r) : X E mX7_readNumber (d + 2) (0, 0) (0, 0) 34 [some (xr 7 0), none, none] [] h (PoI r) := by
  unfold b_X7_readNumber_1 at hF
  refine x_aload_n (i := 0) (b := 35) dX7_readNumber_34 rfl rfl rfl ?_
  refine x_iconst (n := 2) (b := 36) dX7_readNumber_35 (by decide) rfl ?_
  refine x_aload_n (i := 0) (b := 37) dX7_readNumber_36 rfl rfl rfl ?_
  refine x_getI (v := gI h 7 0 7) (b := 40) fk_X7_29 dX7_readNumber_37 (by decide) rfl rfl ?_
  obtain ⟨v1, h2, hq, hF⟩ := bd_e hF
  refine x_callV (as := [xi 2, xi (gI h 7 0 7)]) (rest := []) (b := 43) (c_X7_wrong d 2 (gI h 7 0 7) h _ hL hq) dX7_readNumber_40 cw_X7_149 ⟨_, _, rfl, Nat.le_of_ble_eq_true rfl⟩ rfl rfl (Nat.le_of_ble_eq_true rfl) ⟨Nat.le_refl _, Nat.le_refl _⟩ rfl (fun rv hh hp _ => ?_)
  obtain ⟨rfl, rfl, hL⟩ := hp
  obtain ⟨hs, hF⟩ := ck_e hF
  refine x_zreturn dX7_readNumber_43 rfl ⟨Nat.le_refl _, Nat.le_refl _⟩ hs ?_
  cases hF
  exact ⟨rfl, rfl, hL⟩
set_option maxHeartbeats 4000000 in
set_option maxRecDepth 100000 in
theorem u_X7_readNumber (E : xE) (d : Nat) (r : Int × Hp) : ∀ n : Nat, (∀ (x1 x2 : Int) (h : Hp), Lay h → g_X7_readNumber n 0 [x1, x2] h = some r → X E mX7_readNumber (d + 2) (0, 0) (0, 0) 0 [some (xr 7 0), some (xi x1), some (xi x2)] [] h (PoI r)) ∧ (∀ (h : Hp), Lay h → g_X7_readNumber n 1 [] h = some r → X E mX7_readNumber (d + 2) (0, 0) (0, 0) 34 [some (xr 7 0), none, none] [] h (PoI r)) := by
  intro n
  induction n with
  | zero => exact ⟨fun _ _ _ _ hF => no_e (r := r) hF, fun _ _ hF => no_e (r := r) hF⟩
  | succ n ih => exact ⟨fun x1 x2 h hL hF => t_X7_readNumber_0 E d (g_X7_readNumber n) r ih.2 x1 x2 h hL hF, fun h hL hF => t_X7_readNumber_1 E d (g_X7_readNumber n) r   h hL hF⟩
theorem c_X7_readNumber (d : Nat) (x1 x2 : Int) (h : Hp) (r : Int × Hp) (hL : Lay h) (hF : f_X7_readNumber x1 x2 h = some r) : Sp mX7_readNumber (d + 2) (0, 0) [xr 7 0, xi x1, xi x2] h (PoI r) :=
  sp_of (by decide) rfl (Nat.le_of_ble_eq_true rfl) (ls := [some (xr 7 0), some (xi x1), some (xi x2)]) rfl (fun E _ => (u_X7_readNumber E d r FU).1 x1 x2 h hL hF)
theorem dX7_readOdds_0 : decode cX7_readOdds 0 = .ok (.aload_n 0, 1) := by decide +kernel
theorem dX7_readOdds_1 : decode cX7_readOdds 1 = .ok (.getfield 35, 3) := by decide +kernel
theorem dX7_readOdds_4 : decode cX7_readOdds 4 = .ok (.bipush 12, 2) := by decide +kernel
theorem dX7_readOdds_6 : decode cX7_readOdds 6 = .ok (.if_icmp .eq 13, 3) := by decide +kernel
theorem dX7_readOdds_9 : decode cX7_readOdds 9 = .ok (.aload_n 0, 1) := by decide +kernel
theorem dX7_readOdds_10 : decode cX7_readOdds 10 = .ok (.iconst 1, 1) := by decide +kernel
theorem dX7_readOdds_11 : decode cX7_readOdds 11 = .ok (.aload_n 0, 1) := by decide +kernel
theorem dX7_readOdds_12 : decode cX7_readOdds 12 = .ok (.getfield 29, 3) := by decide +kernel
theorem dX7_readOdds_15 : decode cX7_readOdds 15 = .ok (.invokevirtual 149, 3) := by decide +kernel
theorem dX7_readOdds_18 : decode cX7_readOdds 18 = .ok (.ireturn, 1) := by decide +kernel
theorem dX7_readOdds_19 : decode cX7_readOdds 19 = .ok (.aload_n 0, 1) := by decide +kernel
theorem dX7_readOdds_20 : decode cX7_readOdds 20 = .ok (.invokevirtual 89, 3) := by decide +kernel
theorem dX7_readOdds_23 : decode cX7_readOdds 23 = .ok (.aload_n 0, 1) := by decide +kernel
theorem dX7_readOdds_24 : decode cX7_readOdds 24 = .ok (.iconst 1, 1) := by decide +kernel
theorem dX7_readOdds_25 : decode cX7_readOdds 25 = .ok (.bipush 99, 2) := by decide +kernel
theorem dX7_readOdds_27 : decode cX7_readOdds 27 = .ok (.invokevirtual 167, 3) := by decide +kernel
theorem dX7_readOdds_30 : decode cX7_readOdds 30 = .ok (.ifCond .ne 5, 3) := by decide +kernel
theorem dX7_readOdds_33 : decode cX7_readOdds 33 = .ok (.iconst 0, 1) := by decide +kernel
theorem dX7_readOdds_34 : decode cX7_readOdds 34 = .ok (.ireturn, 1) := by decide +kernel
theorem dX7_readOdds_35 : decode cX7_readOdds 35 = .ok (.aload_n 1, 1) := by decide +kernel
theorem dX7_readOdds_36 : decode cX7_readOdds 36 = .ok (.aload_n 0, 1) := by decide +kernel
theorem dX7_readOdds_37 : decode cX7_readOdds 37 = .ok (.getfield 41, 3) := by decide +kernel
theorem dX7_readOdds_40 : decode cX7_readOdds 40 = .ok (.putfield 285, 3) := by decide +kernel
theorem dX7_readOdds_43 : decode cX7_readOdds 43 = .ok (.iconst 1, 1) := by decide +kernel
theorem dX7_readOdds_44 : decode cX7_readOdds 44 = .ok (.ireturn, 1) := by decide +kernel
noncomputable def b_X7_readOdds_0 (rec : Rk) (x1 : Int) (h : Hp) : Option (Int × Hp) :=
  if (gI h 7 0 9) = 12 then (
    bd (f_X7_advance h) fun v1 h2 =>
    bd (f_X7_readNumber 1 99 h2) fun v3 h4 =>
    if v3 = 0 then (
      some (0, h4)
    ) else (
      lt (sI h4 4 x1 2 (gI h4 7 0 11)) fun h5 =>
      some (1, h5)
    )
  ) else (
    bd (f_X7_wrong 1 (gI h 7 0 7) h) fun v6 h7 =>
    ck (0 ≤ v6 ∧ v6 < 2) <|
    some (v6, h7)
  )
noncomputable def g_X7_readOdds (n : Nat) : Rk := Nat.rec (motive := fun _ => Rk) (fun _ _ _ => none) (fun _ rec k l h => if k = 0 then b_X7_readOdds_0 rec (l.getD 0 0) h else none) n
noncomputable def f_X7_readOdds (x1 : Int) (h : Hp) : Option (Int × Hp) := g_X7_readOdds FU 0 [x1] h
set_option maxHeartbeats 4000000 in
set_option maxRecDepth 100000 in
theorem t_X7_readOdds_0 (E : xE) (d : Nat) (rec : Rk) (r : Int × Hp) (x1 : Int) (h : Hp) (hL : Lay h) (hF : b_X7_readOdds_0 rec x1 h = some r) : X E mX7_readOdds (d + 3) (0, 0) (0, 0) 0 [some (xr 7 0), some (xr 4 x1)] [] h (PoI r) := by
  unfold b_X7_readOdds_0 at hF
  refine x_aload_n (i := 0) (b := 1) dX7_readOdds_0 rfl rfl rfl ?_
  refine x_getI (v := gI h 7 0 9) (b := 4) fk_X7_35 dX7_readOdds_1 (by decide) rfl rfl ?_
  refine x_bipush (n := 12) (b := 6) dX7_readOdds_4 (by decide) rfl ?_
  refine x_icmp_eq (tgt := 19) (b := 9) dX7_readOdds_6 (by decide) rfl (fun hc => ?_) (fun hc => ?_)
  · replace hF := br_T hc hF
    refine x_aload_n (i := 0) (b := 20) dX7_readOdds_19 rfl rfl rfl ?_
    obtain ⟨v1, h2, hq, hF⟩ := bd_e hF
    refine x_callV (as := []) (rest := []) (b := 23) (c_X7_advance (d + 1) h _ hL hq) dX7_readOdds_20 cw_X7_89 ⟨_, _, rfl, Nat.le_of_ble_eq_true rfl⟩ rfl rfl (Nat.le_of_ble_eq_true rfl) ⟨Nat.le_refl _, Nat.le_refl _⟩ rfl (fun rv hh hp _ => ?_)
    obtain ⟨rfl, rfl, hL⟩ := hp
    refine x_aload_n (i := 0) (b := 24) dX7_readOdds_23 rfl rfl rfl ?_
    refine x_iconst (n := 1) (b := 25) dX7_readOdds_24 (by decide) rfl ?_
    refine x_bipush (n := 99) (b := 27) dX7_readOdds_25 (by decide) rfl ?_
    obtain ⟨v3, h4, hq, hF⟩ := bd_e hF
    refine x_callV (as := [xi 1, xi 99]) (rest := []) (b := 30) (c_X7_readNumber d 1 99 h2 _ hL hq) dX7_readOdds_27 cw_X7_167 ⟨_, _, rfl, Nat.le_of_ble_eq_true rfl⟩ rfl rfl (Nat.le_of_ble_eq_true rfl) ⟨Nat.le_refl _, Nat.le_refl _⟩ rfl (fun rv hh hp _ => ?_)
    obtain ⟨rfl, rfl, hL⟩ := hp
    refine x_if_ne (tgt := 35) (b := 33) dX7_readOdds_30 (by decide) rfl (fun hc => ?_) (fun hc => ?_)
    · replace hF := br_F hc hF
      refine x_aload_n (i := 1) (b := 36) dX7_readOdds_35 rfl rfl rfl ?_
      refine x_aload_n (i := 0) (b := 37) dX7_readOdds_36 rfl rfl rfl ?_
      refine x_getI (v := gI h4 7 0 11) (b := 40) fk_X7_41 dX7_readOdds_37 (by decide) rfl rfl ?_
      refine x_putI (b := 43) fk_X7_285 dX7_readOdds_40 rfl rfl 2 rfl ?_
      obtain ⟨h5, e_h5, hF⟩ := lt_e hF
      refine x_hp (h2 := h5) e_h5 ?_
      replace hL : Lay h5 := by rw [← e_h5]; exact hL
      refine x_iconst (n := 1) (b := 44) dX7_readOdds_43 (by decide) rfl ?_
      refine x_zreturn dX7_readOdds_44 rfl ⟨Nat.le_refl _, Nat.le_refl _⟩ (by decide) ?_
      cases hF
      exact ⟨rfl, rfl, hL⟩
    · replace hF := br_T hc hF
      refine x_iconst (n := 0) (b := 34) dX7_readOdds_33 (by decide) rfl ?_
      refine x_zreturn dX7_readOdds_34 rfl ⟨Nat.le_refl _, Nat.le_refl _⟩ (by decide) ?_
      cases hF
      exact ⟨rfl, rfl, hL⟩
  · replace hF := br_F hc hF
    refine x_aload_n (i := 0) (b := 10) dX7_readOdds_9 rfl rfl rfl ?_
    refine x_iconst (n := 1) (b := 11) dX7_readOdds_10 (by decide) rfl ?_
    refine x_aload_n (i := 0) (b := 12) dX7_readOdds_11 rfl rfl rfl ?_
    refine x_getI (v := gI h 7 0 7) (b := 15) fk_X7_29 dX7_readOdds_12 (by decide) rfl rfl ?_
    obtain ⟨v6, h7, hq, hF⟩ := bd_e hF
    refine x_callV (as := [xi 1, xi (gI h 7 0 7)]) (rest := []) (b := 18) (c_X7_wrong (d + 1) 1 (gI h 7 0 7) h _ hL hq) dX7_readOdds_15 cw_X7_149 ⟨_, _, rfl, Nat.le_of_ble_eq_true rfl⟩ rfl rfl (Nat.le_of_ble_eq_true rfl) ⟨Nat.le_refl _, Nat.le_refl _⟩ rfl (fun rv hh hp _ => ?_)
    obtain ⟨rfl, rfl, hL⟩ := hp
    obtain ⟨hs, hF⟩ := ck_e hF
    refine x_zreturn dX7_readOdds_18 rfl ⟨Nat.le_refl _, Nat.le_refl _⟩ hs ?_
    cases hF
    exact ⟨rfl, rfl, hL⟩
set_option maxHeartbeats 4000000 in
set_option maxRecDepth 100000 in
theorem u_X7_readOdds (E : xE) (d : Nat) (r : Int × Hp) : ∀ n : Nat, (∀ (x1 : Int) (h : Hp), Lay h → g_X7_readOdds n 0 [x1] h = some r → X E mX7_readOdds (d + 3) (0, 0) (0, 0) 0 [some (xr 7 0), some (xr 4 x1)] [] h (PoI r)) := by
  intro n
  induction n with
  | zero => exact fun _ _ _ hF => no_e (r := r) hF
  | succ n ih => exact fun x1 h hL hF => t_X7_readOdds_0 E d (g_X7_readOdds n) r  x1 h hL hF
theorem c_X7_readOdds (d : Nat) (x1 : Int) (h : Hp) (r : Int × Hp) (hL : Lay h) (hF : f_X7_readOdds x1 h = some r) : Sp mX7_readOdds (d + 3) (0, 0) [xr 7 0, xr 4 x1] h (PoI r) :=
  sp_of (by decide) rfl (Nat.le_of_ble_eq_true rfl) (ls := [some (xr 7 0), some (xr 4 x1)]) rfl (fun E _ => (u_X7_readOdds E d r FU) x1 h hL hF)
theorem dX7_readSick_0 : decode cX7_readSick 0 = .ok (.aload_n 0, 1) := by decide +kernel
theorem dX7_readSick_1 : decode cX7_readSick 1 = .ok (.iconst 0, 1) := by decide +kernel
theorem dX7_readSick_2 : decode cX7_readSick 2 = .ok (.bipush 59, 2) := by decide +kernel
theorem dX7_readSick_4 : decode cX7_readSick 4 = .ok (.invokevirtual 167, 3) := by decide +kernel
theorem dX7_readSick_7 : decode cX7_readSick 7 = .ok (.ifCond .ne 5, 3) := by decide +kernel
theorem dX7_readSick_10 : decode cX7_readSick 10 = .ok (.iconst 0, 1) := by decide +kernel
theorem dX7_readSick_11 : decode cX7_readSick 11 = .ok (.ireturn, 1) := by decide +kernel
theorem dX7_readSick_12 : decode cX7_readSick 12 = .ok (.aload_n 1, 1) := by decide +kernel
theorem dX7_readSick_13 : decode cX7_readSick 13 = .ok (.aload_n 0, 1) := by decide +kernel
theorem dX7_readSick_14 : decode cX7_readSick 14 = .ok (.getfield 41, 3) := by decide +kernel
theorem dX7_readSick_17 : decode cX7_readSick 17 = .ok (.putfield 304, 3) := by decide +kernel
theorem dX7_readSick_20 : decode cX7_readSick 20 = .ok (.aload_n 0, 1) := by decide +kernel
theorem dX7_readSick_21 : decode cX7_readSick 21 = .ok (.aload_n 1, 1) := by decide +kernel
theorem dX7_readSick_22 : decode cX7_readSick 22 = .ok (.getfield 304, 3) := by decide +kernel
theorem dX7_readSick_25 : decode cX7_readSick 25 = .ok (.bipush 59, 2) := by decide +kernel
theorem dX7_readSick_27 : decode cX7_readSick 27 = .ok (.invokevirtual 167, 3) := by decide +kernel
theorem dX7_readSick_30 : decode cX7_readSick 30 = .ok (.ifCond .ne 5, 3) := by decide +kernel
theorem dX7_readSick_33 : decode cX7_readSick 33 = .ok (.iconst 0, 1) := by decide +kernel
theorem dX7_readSick_34 : decode cX7_readSick 34 = .ok (.ireturn, 1) := by decide +kernel
theorem dX7_readSick_35 : decode cX7_readSick 35 = .ok (.aload_n 1, 1) := by decide +kernel
theorem dX7_readSick_36 : decode cX7_readSick 36 = .ok (.aload_n 0, 1) := by decide +kernel
theorem dX7_readSick_37 : decode cX7_readSick 37 = .ok (.getfield 41, 3) := by decide +kernel
theorem dX7_readSick_40 : decode cX7_readSick 40 = .ok (.putfield 307, 3) := by decide +kernel
theorem dX7_readSick_43 : decode cX7_readSick 43 = .ok (.iconst 1, 1) := by decide +kernel
theorem dX7_readSick_44 : decode cX7_readSick 44 = .ok (.ireturn, 1) := by decide +kernel
noncomputable def b_X7_readSick_0 (rec : Rk) (x1 : Int) (h : Hp) : Option (Int × Hp) :=
  bd (f_X7_readNumber 0 59 h) fun v1 h2 =>
  if v1 = 0 then (
    some (0, h2)
  ) else (
    lt (sI h2 4 x1 5 (gI h2 7 0 11)) fun h3 =>
    bd (f_X7_readNumber (gI h3 4 x1 5) 59 h3) fun v4 h5 =>
    if v4 = 0 then (
      some (0, h5)
    ) else (
      lt (sI h5 4 x1 6 (gI h5 7 0 11)) fun h6 =>
      some (1, h6)
    )
  )
noncomputable def g_X7_readSick (n : Nat) : Rk := Nat.rec (motive := fun _ => Rk) (fun _ _ _ => none) (fun _ rec k l h => if k = 0 then b_X7_readSick_0 rec (l.getD 0 0) h else none) n
noncomputable def f_X7_readSick (x1 : Int) (h : Hp) : Option (Int × Hp) := g_X7_readSick FU 0 [x1] h
set_option maxHeartbeats 4000000 in
set_option maxRecDepth 100000 in
theorem t_X7_readSick_0 (E : xE) (d : Nat) (rec : Rk) (r : Int × Hp) (x1 : Int) (h : Hp) (hL : Lay h) (hF : b_X7_readSick_0 rec x1 h = some r) : X E mX7_readSick (d + 3) (0, 0) (0, 0) 0 [some (xr 7 0), some (xr 4 x1)] [] h (PoI r) := by
  unfold b_X7_readSick_0 at hF
  refine x_aload_n (i := 0) (b := 1) dX7_readSick_0 rfl rfl rfl ?_
  refine x_iconst (n := 0) (b := 2) dX7_readSick_1 (by decide) rfl ?_
  refine x_bipush (n := 59) (b := 4) dX7_readSick_2 (by decide) rfl ?_
  obtain ⟨v1, h2, hq, hF⟩ := bd_e hF
  refine x_callV (as := [xi 0, xi 59]) (rest := []) (b := 7) (c_X7_readNumber d 0 59 h _ hL hq) dX7_readSick_4 cw_X7_167 ⟨_, _, rfl, Nat.le_of_ble_eq_true rfl⟩ rfl rfl (Nat.le_of_ble_eq_true rfl) ⟨Nat.le_refl _, Nat.le_refl _⟩ rfl (fun rv hh hp _ => ?_)
  obtain ⟨rfl, rfl, hL⟩ := hp
  refine x_if_ne (tgt := 12) (b := 10) dX7_readSick_7 (by decide) rfl (fun hc => ?_) (fun hc => ?_)
  · replace hF := br_F hc hF
    refine x_aload_n (i := 1) (b := 13) dX7_readSick_12 rfl rfl rfl ?_
    refine x_aload_n (i := 0) (b := 14) dX7_readSick_13 rfl rfl rfl ?_
    refine x_getI (v := gI h2 7 0 11) (b := 17) fk_X7_41 dX7_readSick_14 (by decide) rfl rfl ?_
    refine x_putI (b := 20) fk_X7_304 dX7_readSick_17 rfl rfl 5 rfl ?_
    obtain ⟨h3, e_h3, hF⟩ := lt_e hF
    refine x_hp (h2 := h3) e_h3 ?_
    replace hL : Lay h3 := by rw [← e_h3]; exact hL
    refine x_aload_n (i := 0) (b := 21) dX7_readSick_20 rfl rfl rfl ?_
    refine x_aload_n (i := 1) (b := 22) dX7_readSick_21 rfl rfl rfl ?_
    refine x_getI (v := gI h3 4 x1 5) (b := 25) fk_X7_304 dX7_readSick_22 (by decide) rfl rfl ?_
    refine x_bipush (n := 59) (b := 27) dX7_readSick_25 (by decide) rfl ?_
    obtain ⟨v4, h5, hq, hF⟩ := bd_e hF
    refine x_callV (as := [xi (gI h3 4 x1 5), xi 59]) (rest := []) (b := 30) (c_X7_readNumber d (gI h3 4 x1 5) 59 h3 _ hL hq) dX7_readSick_27 cw_X7_167 ⟨_, _, rfl, Nat.le_of_ble_eq_true rfl⟩ rfl rfl (Nat.le_of_ble_eq_true rfl) ⟨Nat.le_refl _, Nat.le_refl _⟩ rfl (fun rv hh hp _ => ?_)
    obtain ⟨rfl, rfl, hL⟩ := hp
    refine x_if_ne (tgt := 35) (b := 33) dX7_readSick_30 (by decide) rfl (fun hc => ?_) (fun hc => ?_)
    · replace hF := br_F hc hF
      refine x_aload_n (i := 1) (b := 36) dX7_readSick_35 rfl rfl rfl ?_
      refine x_aload_n (i := 0) (b := 37) dX7_readSick_36 rfl rfl rfl ?_
      refine x_getI (v := gI h5 7 0 11) (b := 40) fk_X7_41 dX7_readSick_37 (by decide) rfl rfl ?_
      refine x_putI (b := 43) fk_X7_307 dX7_readSick_40 rfl rfl 6 rfl ?_
      obtain ⟨h6, e_h6, hF⟩ := lt_e hF
      refine x_hp (h2 := h6) e_h6 ?_
      replace hL : Lay h6 := by rw [← e_h6]; exact hL
      refine x_iconst (n := 1) (b := 44) dX7_readSick_43 (by decide) rfl ?_
      refine x_zreturn dX7_readSick_44 rfl ⟨Nat.le_refl _, Nat.le_refl _⟩ (by decide) ?_
      cases hF
      exact ⟨rfl, rfl, hL⟩
    · replace hF := br_T hc hF
      refine x_iconst (n := 0) (b := 34) dX7_readSick_33 (by decide) rfl ?_
      refine x_zreturn dX7_readSick_34 rfl ⟨Nat.le_refl _, Nat.le_refl _⟩ (by decide) ?_
      cases hF
      exact ⟨rfl, rfl, hL⟩
  · replace hF := br_T hc hF
    refine x_iconst (n := 0) (b := 11) dX7_readSick_10 (by decide) rfl ?_
    refine x_zreturn dX7_readSick_11 rfl ⟨Nat.le_refl _, Nat.le_refl _⟩ (by decide) ?_
    cases hF
    exact ⟨rfl, rfl, hL⟩
set_option maxHeartbeats 4000000 in
set_option maxRecDepth 100000 in
theorem u_X7_readSick (E : xE) (d : Nat) (r : Int × Hp) : ∀ n : Nat, (∀ (x1 : Int) (h : Hp), Lay h → g_X7_readSick n 0 [x1] h = some r → X E mX7_readSick (d + 3) (0, 0) (0, 0) 0 [some (xr 7 0), some (xr 4 x1)] [] h (PoI r)) := by
  intro n
  induction n with
  | zero => exact fun _ _ _ hF => no_e (r := r) hF
  | succ n ih => exact fun x1 h hL hF => t_X7_readSick_0 E d (g_X7_readSick n) r  x1 h hL hF
theorem c_X7_readSick (d : Nat) (x1 : Int) (h : Hp) (r : Int × Hp) (hL : Lay h) (hF : f_X7_readSick x1 h = some r) : Sp mX7_readSick (d + 3) (0, 0) [xr 7 0, xr 4 x1] h (PoI r) :=
  sp_of (by decide) rfl (Nat.le_of_ble_eq_true rfl) (ls := [some (xr 7 0), some (xr 4 x1)]) rfl (fun E _ => (u_X7_readSick E d r FU) x1 h hL hF)
theorem dX7_readStay_0 : decode cX7_readStay 0 = .ok (.iload_n 2, 1) := by decide +kernel
theorem dX7_readStay_1 : decode cX7_readStay 1 = .ok (.bipush 13, 2) := by decide +kernel
theorem dX7_readStay_3 : decode cX7_readStay 3 = .ok (.if_icmp .ne 28, 3) := by decide +kernel
theorem dX7_readStay_6 : decode cX7_readStay 6 = .ok (.aload_n 0, 1) := by decide +kernel
theorem dX7_readStay_7 : decode cX7_readStay 7 = .ok (.iconst 0, 1) := by decide +kernel
theorem dX7_readStay_8 : decode cX7_readStay 8 = .ok (.aload_n 1, 1) := by decide +kernel
theorem dX7_readStay_9 : decode cX7_readStay 9 = .ok (.getfield 298, 3) := by decide +kernel
theorem dX7_readStay_12 : decode cX7_readStay 12 = .ok (.invokevirtual 167, 3) := by decide +kernel
theorem dX7_readStay_15 : decode cX7_readStay 15 = .ok (.ifCond .ne 5, 3) := by decide +kernel
theorem dX7_readStay_18 : decode cX7_readStay 18 = .ok (.iconst 0, 1) := by decide +kernel
theorem dX7_readStay_19 : decode cX7_readStay 19 = .ok (.ireturn, 1) := by decide +kernel
theorem dX7_readStay_20 : decode cX7_readStay 20 = .ok (.aload_n 1, 1) := by decide +kernel
theorem dX7_readStay_21 : decode cX7_readStay 21 = .ok (.aload_n 0, 1) := by decide +kernel
theorem dX7_readStay_22 : decode cX7_readStay 22 = .ok (.getfield 41, 3) := by decide +kernel
theorem dX7_readStay_25 : decode cX7_readStay 25 = .ok (.putfield 301, 3) := by decide +kernel
theorem dX7_readStay_28 : decode cX7_readStay 28 = .ok (.goto 26, 3) := by decide +kernel
theorem dX7_readStay_31 : decode cX7_readStay 31 = .ok (.aload_n 0, 1) := by decide +kernel
theorem dX7_readStay_32 : decode cX7_readStay 32 = .ok (.aload_n 1, 1) := by decide +kernel
theorem dX7_readStay_33 : decode cX7_readStay 33 = .ok (.getfield 301, 3) := by decide +kernel
theorem dX7_readStay_36 : decode cX7_readStay 36 = .ok (.bipush 59, 2) := by decide +kernel
theorem dX7_readStay_38 : decode cX7_readStay 38 = .ok (.invokevirtual 167, 3) := by decide +kernel
theorem dX7_readStay_41 : decode cX7_readStay 41 = .ok (.ifCond .ne 5, 3) := by decide +kernel
theorem dX7_readStay_44 : decode cX7_readStay 44 = .ok (.iconst 0, 1) := by decide +kernel
theorem dX7_readStay_45 : decode cX7_readStay 45 = .ok (.ireturn, 1) := by decide +kernel
theorem dX7_readStay_46 : decode cX7_readStay 46 = .ok (.aload_n 1, 1) := by decide +kernel
theorem dX7_readStay_47 : decode cX7_readStay 47 = .ok (.aload_n 0, 1) := by decide +kernel
theorem dX7_readStay_48 : decode cX7_readStay 48 = .ok (.getfield 41, 3) := by decide +kernel
theorem dX7_readStay_51 : decode cX7_readStay 51 = .ok (.putfield 298, 3) := by decide +kernel
theorem dX7_readStay_54 : decode cX7_readStay 54 = .ok (.iconst 1, 1) := by decide +kernel
theorem dX7_readStay_55 : decode cX7_readStay 55 = .ok (.ireturn, 1) := by decide +kernel
noncomputable def b_X7_readStay_0 (rec : Rk) (x1 x2 : Int) (h : Hp) : Option (Int × Hp) :=
  if x2 = 13 then (
    bd (f_X7_readNumber 0 (gI h 4 x1 4) h) fun v1 h2 =>
    if v1 = 0 then (
      some (0, h2)
    ) else (
      lt (sI h2 4 x1 3 (gI h2 7 0 11)) fun h3 =>
      some (1, h3)
    )
  ) else (
    bd (f_X7_readNumber (gI h 4 x1 3) 59 h) fun v4 h5 =>
    if v4 = 0 then (
      some (0, h5)
    ) else (
      lt (sI h5 4 x1 4 (gI h5 7 0 11)) fun h6 =>
      some (1, h6)
    )
  )
noncomputable def g_X7_readStay (n : Nat) : Rk := Nat.rec (motive := fun _ => Rk) (fun _ _ _ => none) (fun _ rec k l h => if k = 0 then b_X7_readStay_0 rec (l.getD 0 0) (l.getD 1 0) h else none) n
noncomputable def f_X7_readStay (x1 x2 : Int) (h : Hp) : Option (Int × Hp) := g_X7_readStay FU 0 [x1, x2] h
set_option maxHeartbeats 4000000 in
set_option maxRecDepth 100000 in
theorem t_X7_readStay_0 (E : xE) (d : Nat) (rec : Rk) (r : Int × Hp) (x1 x2 : Int) (h : Hp) (hL : Lay h) (hF : b_X7_readStay_0 rec x1 x2 h = some r) : X E mX7_readStay (d + 3) (0, 0) (0, 0) 0 [some (xr 7 0), some (xr 4 x1), some (xi x2)] [] h (PoI r) := by
  unfold b_X7_readStay_0 at hF
  refine x_iload_n (i := 2) (b := 1) dX7_readStay_0 rfl rfl rfl ?_
  refine x_bipush (n := 13) (b := 3) dX7_readStay_1 (by decide) rfl ?_
  refine x_icmp_ne (tgt := 31) (b := 6) dX7_readStay_3 (by decide) rfl (fun hc => ?_) (fun hc => ?_)
  · replace hF := br_F hc hF
    refine x_aload_n (i := 0) (b := 32) dX7_readStay_31 rfl rfl rfl ?_
    refine x_aload_n (i := 1) (b := 33) dX7_readStay_32 rfl rfl rfl ?_
    refine x_getI (v := gI h 4 x1 3) (b := 36) fk_X7_301 dX7_readStay_33 (by decide) rfl rfl ?_
    refine x_bipush (n := 59) (b := 38) dX7_readStay_36 (by decide) rfl ?_
    obtain ⟨v4, h5, hq, hF⟩ := bd_e hF
    refine x_callV (as := [xi (gI h 4 x1 3), xi 59]) (rest := []) (b := 41) (c_X7_readNumber d (gI h 4 x1 3) 59 h _ hL hq) dX7_readStay_38 cw_X7_167 ⟨_, _, rfl, Nat.le_of_ble_eq_true rfl⟩ rfl rfl (Nat.le_of_ble_eq_true rfl) ⟨Nat.le_refl _, Nat.le_refl _⟩ rfl (fun rv hh hp _ => ?_)
    obtain ⟨rfl, rfl, hL⟩ := hp
    refine x_if_ne (tgt := 46) (b := 44) dX7_readStay_41 (by decide) rfl (fun hc => ?_) (fun hc => ?_)
    · replace hF := br_F hc hF
      refine x_aload_n (i := 1) (b := 47) dX7_readStay_46 rfl rfl rfl ?_
      refine x_aload_n (i := 0) (b := 48) dX7_readStay_47 rfl rfl rfl ?_
      refine x_getI (v := gI h5 7 0 11) (b := 51) fk_X7_41 dX7_readStay_48 (by decide) rfl rfl ?_
      refine x_putI (b := 54) fk_X7_298 dX7_readStay_51 rfl rfl 4 rfl ?_
      obtain ⟨h6, e_h6, hF⟩ := lt_e hF
      refine x_hp (h2 := h6) e_h6 ?_
      replace hL : Lay h6 := by rw [← e_h6]; exact hL
      refine x_iconst (n := 1) (b := 55) dX7_readStay_54 (by decide) rfl ?_
      refine x_zreturn dX7_readStay_55 rfl ⟨Nat.le_refl _, Nat.le_refl _⟩ (by decide) ?_
      cases hF
      exact ⟨rfl, rfl, hL⟩
    · replace hF := br_T hc hF
      refine x_iconst (n := 0) (b := 45) dX7_readStay_44 (by decide) rfl ?_
      refine x_zreturn dX7_readStay_45 rfl ⟨Nat.le_refl _, Nat.le_refl _⟩ (by decide) ?_
      cases hF
      exact ⟨rfl, rfl, hL⟩
  · replace hF := br_T hc hF
    refine x_aload_n (i := 0) (b := 7) dX7_readStay_6 rfl rfl rfl ?_
    refine x_iconst (n := 0) (b := 8) dX7_readStay_7 (by decide) rfl ?_
    refine x_aload_n (i := 1) (b := 9) dX7_readStay_8 rfl rfl rfl ?_
    refine x_getI (v := gI h 4 x1 4) (b := 12) fk_X7_298 dX7_readStay_9 (by decide) rfl rfl ?_
    obtain ⟨v1, h2, hq, hF⟩ := bd_e hF
    refine x_callV (as := [xi 0, xi (gI h 4 x1 4)]) (rest := []) (b := 15) (c_X7_readNumber d 0 (gI h 4 x1 4) h _ hL hq) dX7_readStay_12 cw_X7_167 ⟨_, _, rfl, Nat.le_of_ble_eq_true rfl⟩ rfl rfl (Nat.le_of_ble_eq_true rfl) ⟨Nat.le_refl _, Nat.le_refl _⟩ rfl (fun rv hh hp _ => ?_)
    obtain ⟨rfl, rfl, hL⟩ := hp
    refine x_if_ne (tgt := 20) (b := 18) dX7_readStay_15 (by decide) rfl (fun hc => ?_) (fun hc => ?_)
    · replace hF := br_F hc hF
      refine x_aload_n (i := 1) (b := 21) dX7_readStay_20 rfl rfl rfl ?_
      refine x_aload_n (i := 0) (b := 22) dX7_readStay_21 rfl rfl rfl ?_
      refine x_getI (v := gI h2 7 0 11) (b := 25) fk_X7_41 dX7_readStay_22 (by decide) rfl rfl ?_
      refine x_putI (b := 28) fk_X7_301 dX7_readStay_25 rfl rfl 3 rfl ?_
      obtain ⟨h3, e_h3, hF⟩ := lt_e hF
      refine x_hp (h2 := h3) e_h3 ?_
      replace hL : Lay h3 := by rw [← e_h3]; exact hL
      refine x_goto (tgt := 54) dX7_readStay_28 (by decide) ?_
      refine x_iconst (n := 1) (b := 55) dX7_readStay_54 (by decide) rfl ?_
      refine x_zreturn dX7_readStay_55 rfl ⟨Nat.le_refl _, Nat.le_refl _⟩ (by decide) ?_
      cases hF
      exact ⟨rfl, rfl, hL⟩
    · replace hF := br_T hc hF
      refine x_iconst (n := 0) (b := 19) dX7_readStay_18 (by decide) rfl ?_
      refine x_zreturn dX7_readStay_19 rfl ⟨Nat.le_refl _, Nat.le_refl _⟩ (by decide) ?_
      cases hF
      exact ⟨rfl, rfl, hL⟩
set_option maxHeartbeats 4000000 in
set_option maxRecDepth 100000 in
theorem u_X7_readStay (E : xE) (d : Nat) (r : Int × Hp) : ∀ n : Nat, (∀ (x1 x2 : Int) (h : Hp), Lay h → g_X7_readStay n 0 [x1, x2] h = some r → X E mX7_readStay (d + 3) (0, 0) (0, 0) 0 [some (xr 7 0), some (xr 4 x1), some (xi x2)] [] h (PoI r)) := by
  intro n
  induction n with
  | zero => exact fun _ _ _ _ hF => no_e (r := r) hF
  | succ n ih => exact fun x1 x2 h hL hF => t_X7_readStay_0 E d (g_X7_readStay n) r  x1 x2 h hL hF
theorem c_X7_readStay (d : Nat) (x1 x2 : Int) (h : Hp) (r : Int × Hp) (hL : Lay h) (hF : f_X7_readStay x1 x2 h = some r) : Sp mX7_readStay (d + 3) (0, 0) [xr 7 0, xr 4 x1, xi x2] h (PoI r) :=
  sp_of (by decide) rfl (Nat.le_of_ble_eq_true rfl) (ls := [some (xr 7 0), some (xr 4 x1), some (xi x2)]) rfl (fun E _ => (u_X7_readStay E d r FU) x1 x2 h hL hF)
theorem dX7_takePart_0 : decode cX7_takePart 0 = .ok (.aload_n 0, 1) := by decide +kernel
theorem dX7_takePart_1 : decode cX7_takePart 1 = .ok (.getfield 26, 3) := by decide +kernel
theorem dX7_takePart_4 : decode cX7_takePart 4 = .ok (.iconst 3, 1) := by decide +kernel
theorem dX7_takePart_5 : decode cX7_takePart 5 = .ok (.if_icmp .ne 23, 3) := by decide +kernel
theorem dX7_takePart_8 : decode cX7_takePart 8 = .ok (.aload_n 0, 1) := by decide +kernel
theorem dX7_takePart_9 : decode cX7_takePart 9 = .ok (.getfield 32, 3) := by decide +kernel
theorem dX7_takePart_12 : decode cX7_takePart 12 = .ok (.sipush 9999, 3) := by decide +kernel
theorem dX7_takePart_15 : decode cX7_takePart 15 = .ok (.if_icmp .le 13, 3) := by decide +kernel
theorem dX7_takePart_18 : decode cX7_takePart 18 = .ok (.aload_n 0, 1) := by decide +kernel
theorem dX7_takePart_19 : decode cX7_takePart 19 = .ok (.iconst 2, 1) := by decide +kernel
theorem dX7_takePart_20 : decode cX7_takePart 20 = .ok (.aload_n 0, 1) := by decide +kernel
theorem dX7_takePart_21 : decode cX7_takePart 21 = .ok (.getfield 29, 3) := by decide +kernel
theorem dX7_takePart_24 : decode cX7_takePart 24 = .ok (.invokevirtual 149, 3) := by decide +kernel
theorem dX7_takePart_27 : decode cX7_takePart 27 = .ok (.ireturn, 1) := by decide +kernel
theorem dX7_takePart_28 : decode cX7_takePart 28 = .ok (.aload_n 0, 1) := by decide +kernel
theorem dX7_takePart_29 : decode cX7_takePart 29 = .ok (.getfield 26, 3) := by decide +kernel
theorem dX7_takePart_32 : decode cX7_takePart 32 = .ok (.iconst 3, 1) := by decide +kernel
theorem dX7_takePart_33 : decode cX7_takePart 33 = .ok (.if_icmp .eq 12, 3) := by decide +kernel
theorem dX7_takePart_36 : decode cX7_takePart 36 = .ok (.aload_n 0, 1) := by decide +kernel
theorem dX7_takePart_37 : decode cX7_takePart 37 = .ok (.getfield 35, 3) := by decide +kernel
theorem dX7_takePart_40 : decode cX7_takePart 40 = .ok (.bipush 20, 2) := by decide +kernel
theorem dX7_takePart_42 : decode cX7_takePart 42 = .ok (.if_icmp .lt 28, 3) := by decide +kernel
theorem dX7_takePart_45 : decode cX7_takePart 45 = .ok (.aload_n 0, 1) := by decide +kernel
theorem dX7_takePart_46 : decode cX7_takePart 46 = .ok (.iconst 0, 1) := by decide +kernel
theorem dX7_takePart_47 : decode cX7_takePart 47 = .ok (.putfield 65, 3) := by decide +kernel
theorem dX7_takePart_50 : decode cX7_takePart 50 = .ok (.aload_n 0, 1) := by decide +kernel
theorem dX7_takePart_51 : decode cX7_takePart 51 = .ok (.invokevirtual 336, 3) := by decide +kernel
theorem dX7_takePart_54 : decode cX7_takePart 54 = .ok (.ifCond .eq 14, 3) := by decide +kernel
theorem dX7_takePart_57 : decode cX7_takePart 57 = .ok (.aload_n 0, 1) := by decide +kernel
theorem dX7_takePart_58 : decode cX7_takePart 58 = .ok (.invokevirtual 339, 3) := by decide +kernel
theorem dX7_takePart_61 : decode cX7_takePart 61 = .ok (.ifCond .eq 7, 3) := by decide +kernel
theorem dX7_takePart_64 : decode cX7_takePart 64 = .ok (.iconst 1, 1) := by decide +kernel
theorem dX7_takePart_65 : decode cX7_takePart 65 = .ok (.goto 4, 3) := by decide +kernel
theorem dX7_takePart_68 : decode cX7_takePart 68 = .ok (.iconst 0, 1) := by decide +kernel
theorem dX7_takePart_69 : decode cX7_takePart 69 = .ok (.ireturn, 1) := by decide +kernel
theorem dX7_takePart_70 : decode cX7_takePart 70 = .ok (.aload_n 0, 1) := by decide +kernel
theorem dX7_takePart_71 : decode cX7_takePart 71 = .ok (.getfield 38, 3) := by decide +kernel
theorem dX7_takePart_74 : decode cX7_takePart 74 = .ok (.bipush 15, 2) := by decide +kernel
theorem dX7_takePart_76 : decode cX7_takePart 76 = .ok (.if_icmp .ne 39, 3) := by decide +kernel
theorem dX7_takePart_79 : decode cX7_takePart 79 = .ok (.aload_n 0, 1) := by decide +kernel
theorem dX7_takePart_80 : decode cX7_takePart 80 = .ok (.getfield 59, 3) := by decide +kernel
theorem dX7_takePart_83 : decode cX7_takePart 83 = .ok (.bipush 8, 2) := by decide +kernel
theorem dX7_takePart_85 : decode cX7_takePart 85 = .ok (.if_icmp .lt 13, 3) := by decide +kernel
theorem dX7_takePart_88 : decode cX7_takePart 88 = .ok (.aload_n 0, 1) := by decide +kernel
theorem dX7_takePart_89 : decode cX7_takePart 89 = .ok (.iconst 2, 1) := by decide +kernel
theorem dX7_takePart_90 : decode cX7_takePart 90 = .ok (.aload_n 0, 1) := by decide +kernel
theorem dX7_takePart_91 : decode cX7_takePart 91 = .ok (.getfield 29, 3) := by decide +kernel
theorem dX7_takePart_94 : decode cX7_takePart 94 = .ok (.invokevirtual 149, 3) := by decide +kernel
theorem dX7_takePart_97 : decode cX7_takePart 97 = .ok (.ireturn, 1) := by decide +kernel
theorem dX7_takePart_98 : decode cX7_takePart 98 = .ok (.aload_n 0, 1) := by decide +kernel
theorem dX7_takePart_99 : decode cX7_takePart 99 = .ok (.dup, 1) := by decide +kernel
theorem dX7_takePart_100 : decode cX7_takePart 100 = .ok (.getfield 59, 3) := by decide +kernel
theorem dX7_takePart_103 : decode cX7_takePart 103 = .ok (.iconst 1, 1) := by decide +kernel
theorem dX7_takePart_104 : decode cX7_takePart 104 = .ok (.iadd, 1) := by decide +kernel
theorem dX7_takePart_105 : decode cX7_takePart 105 = .ok (.putfield 59, 3) := by decide +kernel
theorem dX7_takePart_108 : decode cX7_takePart 108 = .ok (.aload_n 0, 1) := by decide +kernel
theorem dX7_takePart_109 : decode cX7_takePart 109 = .ok (.bipush 15, 2) := by decide +kernel
theorem dX7_takePart_111 : decode cX7_takePart 111 = .ok (.invokevirtual 342, 3) := by decide +kernel
theorem dX7_takePart_114 : decode cX7_takePart 114 = .ok (.ireturn, 1) := by decide +kernel
theorem dX7_takePart_115 : decode cX7_takePart 115 = .ok (.aload_n 0, 1) := by decide +kernel
theorem dX7_takePart_116 : decode cX7_takePart 116 = .ok (.getfield 38, 3) := by decide +kernel
theorem dX7_takePart_119 : decode cX7_takePart 119 = .ok (.iconst 4, 1) := by decide +kernel
theorem dX7_takePart_120 : decode cX7_takePart 120 = .ok (.if_icmp .ne 11, 3) := by decide +kernel
theorem dX7_takePart_123 : decode cX7_takePart 123 = .ok (.aload_n 0, 1) := by decide +kernel
theorem dX7_takePart_124 : decode cX7_takePart 124 = .ok (.invokevirtual 345, 3) := by decide +kernel
theorem dX7_takePart_127 : decode cX7_takePart 127 = .ok (.iconst 4, 1) := by decide +kernel
theorem dX7_takePart_128 : decode cX7_takePart 128 = .ok (.if_icmp .lt 13, 3) := by decide +kernel
theorem dX7_takePart_131 : decode cX7_takePart 131 = .ok (.aload_n 0, 1) := by decide +kernel
theorem dX7_takePart_132 : decode cX7_takePart 132 = .ok (.iconst 1, 1) := by decide +kernel
theorem dX7_takePart_133 : decode cX7_takePart 133 = .ok (.aload_n 0, 1) := by decide +kernel
theorem dX7_takePart_134 : decode cX7_takePart 134 = .ok (.getfield 29, 3) := by decide +kernel
theorem dX7_takePart_137 : decode cX7_takePart 137 = .ok (.invokevirtual 149, 3) := by decide +kernel
theorem dX7_takePart_140 : decode cX7_takePart 140 = .ok (.ireturn, 1) := by decide +kernel
theorem dX7_takePart_141 : decode cX7_takePart 141 = .ok (.aload_n 0, 1) := by decide +kernel
theorem dX7_takePart_142 : decode cX7_takePart 142 = .ok (.invokevirtual 336, 3) := by decide +kernel
theorem dX7_takePart_145 : decode cX7_takePart 145 = .ok (.ifCond .eq 15, 3) := by decide +kernel
theorem dX7_takePart_148 : decode cX7_takePart 148 = .ok (.aload_n 0, 1) := by decide +kernel
theorem dX7_takePart_149 : decode cX7_takePart 149 = .ok (.iconst 4, 1) := by decide +kernel
theorem dX7_takePart_150 : decode cX7_takePart 150 = .ok (.invokevirtual 342, 3) := by decide +kernel
theorem dX7_takePart_153 : decode cX7_takePart 153 = .ok (.ifCond .eq 7, 3) := by decide +kernel
theorem dX7_takePart_156 : decode cX7_takePart 156 = .ok (.iconst 1, 1) := by decide +kernel
theorem dX7_takePart_157 : decode cX7_takePart 157 = .ok (.goto 4, 3) := by decide +kernel
theorem dX7_takePart_160 : decode cX7_takePart 160 = .ok (.iconst 0, 1) := by decide +kernel
theorem dX7_takePart_161 : decode cX7_takePart 161 = .ok (.ireturn, 1) := by decide +kernel
noncomputable def b_X7_takePart_0 (rec : Rk) (h : Hp) : Option (Int × Hp) :=
  if (gI h 7 0 6) = 3 then (
    if (gI h 7 0 8) ≤ 9999 then (
      rec 1 [] h
    ) else (
      bd (f_X7_wrong 2 (gI h 7 0 7) h) fun v1 h2 =>
      ck (0 ≤ v1 ∧ v1 < 2) <|
      some (v1, h2)
    )
  ) else (
    rec 1 [] h
  )
noncomputable def b_X7_takePart_1 (rec : Rk) (h : Hp) : Option (Int × Hp) :=
  if (gI h 7 0 6) = 3 then (
    rec 2 [] h
  ) else (
    if (gI h 7 0 9) < 20 then (
      if (gI h 7 0 10) = 15 then (
        if (gI h 7 0 16) < 8 then (
          ck (-2147483648 ≤ (gI h 7 0 16) + 1 ∧ (gI h 7 0 16) + 1 < 2147483648) <|
          lt (sI h 7 0 16 ((gI h 7 0 16) + 1)) fun h1 =>
          bd (f_X7_defer 15 h1) fun v2 h3 =>
          ck (0 ≤ v2 ∧ v2 < 2) <|
          some (v2, h3)
        ) else (
          bd (f_X7_wrong 2 (gI h 7 0 7) h) fun v4 h5 =>
          ck (0 ≤ v4 ∧ v4 < 2) <|
          some (v4, h5)
        )
      ) else (
        if (gI h 7 0 10) = 4 then (
          bd (f_X7_rankOnTop h) fun v6 h7 =>
          if v6 < 4 then (
            bd (f_X7_countKnot h7) fun v8 h9 =>
            if v8 = 0 then (
              some (0, h9)
            ) else (
              bd (f_X7_defer 4 h9) fun v10 h11 =>
              if v10 = 0 then (
                some (0, h11)
              ) else (
                some (1, h11)
              )
            )
          ) else (
            rec 3 [] h7
          )
        ) else (
          rec 3 [] h
        )
      )
    ) else (
      rec 2 [] h
    )
  )
noncomputable def b_X7_takePart_2 (rec : Rk) (h : Hp) : Option (Int × Hp) :=
  lt (sI h 7 0 18 0) fun h1 =>
  bd (f_X7_countKnot h1) fun v2 h3 =>
  if v2 = 0 then (
    some (0, h3)
  ) else (
    bd (f_X7_addLeaf h3) fun v4 h5 =>
    if v4 = 0 then (
      some (0, h5)
    ) else (
      some (1, h5)
    )
  )
noncomputable def b_X7_takePart_3 (rec : Rk) (h : Hp) : Option (Int × Hp) :=
  bd (f_X7_wrong 1 (gI h 7 0 7) h) fun v1 h2 =>
  ck (0 ≤ v1 ∧ v1 < 2) <|
  some (v1, h2)
noncomputable def g_X7_takePart (n : Nat) : Rk := Nat.rec (motive := fun _ => Rk) (fun _ _ _ => none) (fun _ rec k l h => if k = 0 then b_X7_takePart_0 rec  h else if k = 1 then b_X7_takePart_1 rec  h else if k = 2 then b_X7_takePart_2 rec  h else if k = 3 then b_X7_takePart_3 rec  h else none) n
noncomputable def f_X7_takePart (h : Hp) : Option (Int × Hp) := g_X7_takePart FU 0 [] h
set_option maxHeartbeats 4000000 in
set_option maxRecDepth 100000 in
theorem t_X7_takePart_0 (E : xE) (d : Nat) (rec : Rk) (r : Int × Hp) (hr_28 : ∀ (h : Hp), Lay h → rec 1 [] h = some r → X E mX7_takePart (d + 3) (0, 0) (0, 0) 28 [some (xr 7 0)] [] h (PoI r)) (h : Hp) (hL : Lay h) (hF : b_X7_takePart_0 rec  h = some r) : X E mX7_takePart (d + 3) (0, 0) (0, 0) 0 [some (xr 7 0)] [] h (PoI r) := by
  unfold b_X7_takePart_0 at hF
  refine x_aload_n (i := 0) (b := 1) dX7_takePart_0 rfl rfl rfl ?_
  refine x_getI (v := gI h 7 0 6) (b := 4) fk_X7_26 dX7_takePart_1 (by decide) rfl rfl ?_
  refine x_iconst (n := 3) (b := 5) dX7_takePart_4 (by decide) rfl ?_
  refine x_icmp_ne (tgt := 28) (b := 8) dX7_takePart_5 (by decide) rfl (fun hc => ?_) (fun hc => ?_)
  · replace hF := br_F hc hF
    exact x_dp (ls2 := [some (xr 7 0)]) ⟨rfl, trivial⟩ (hr_28  h hL hF)
  · replace hF := br_T hc hF
    refine x_aload_n (i := 0) (b := 9) dX7_takePart_8 rfl rfl rfl ?_
    refine x_getI (v := gI h 7 0 8) (b := 12) fk_X7_32 dX7_takePart_9 (by decide) rfl rfl ?_
    refine x_sipush (n := 9999) (b := 15) dX7_takePart_12 (by decide) rfl ?_
    refine x_icmp_le (tgt := 28) (b := 18) dX7_takePart_15 (by decide) rfl (fun hc => ?_) (fun hc => ?_)
    · replace hF := br_T hc hF
      exact x_dp (ls2 := [some (xr 7 0)]) ⟨rfl, trivial⟩ (hr_28  h hL hF)
    · replace hF := br_F hc hF
      refine x_aload_n (i := 0) (b := 19) dX7_takePart_18 rfl rfl rfl ?_
      refine x_iconst (n := 2) (b := 20) dX7_takePart_19 (by decide) rfl ?_
      refine x_aload_n (i := 0) (b := 21) dX7_takePart_20 rfl rfl rfl ?_
      refine x_getI (v := gI h 7 0 7) (b := 24) fk_X7_29 dX7_takePart_21 (by decide) rfl rfl ?_
      obtain ⟨v1, h2, hq, hF⟩ := bd_e hF
      refine x_callV (as := [xi 2, xi (gI h 7 0 7)]) (rest := []) (b := 27) (c_X7_wrong (d + 1) 2 (gI h 7 0 7) h _ hL hq) dX7_takePart_24 cw_X7_149 ⟨_, _, rfl, Nat.le_of_ble_eq_true rfl⟩ rfl rfl (Nat.le_of_ble_eq_true rfl) ⟨Nat.le_refl _, Nat.le_refl _⟩ rfl (fun rv hh hp _ => ?_)
      obtain ⟨rfl, rfl, hL⟩ := hp
      obtain ⟨hs, hF⟩ := ck_e hF
      refine x_zreturn dX7_takePart_27 rfl ⟨Nat.le_refl _, Nat.le_refl _⟩ hs ?_
      cases hF
      exact ⟨rfl, rfl, hL⟩
set_option maxHeartbeats 4000000 in
set_option maxRecDepth 100000 in
theorem t_X7_takePart_1 (E : xE) (d : Nat) (rec : Rk) (r : Int × Hp) (hr_45 : ∀ (h : Hp), Lay h → rec 2 [] h = some r → X E mX7_takePart (d + 3) (0, 0) (0, 0) 45 [some (xr 7 0)] [] h (PoI r)) (hr_131 : ∀ (h : Hp), Lay h → rec 3 [] h = some r → X E mX7_takePart (d + 3) (0, 0) (0, 0) 131 [some (xr 7 0)] [] h (PoI r)) (h : Hp) (hL : Lay h) (hF : b_X7_takePart_1 rec  h = some r) : X E mX7_takePart (d + 3) (0, 0) (0, 0) 28 [some (xr 7 0)] [] h (PoI r) := by
  unfold b_X7_takePart_1 at hF
  refine x_aload_n (i := 0) (b := 29) dX7_takePart_28 rfl rfl rfl ?_
  refine x_getI (v := gI h 7 0 6) (b := 32) fk_X7_26 dX7_takePart_29 (by decide) rfl rfl ?_
  refine x_iconst (n := 3) (b := 33) dX7_takePart_32 (by decide) rfl ?_
  refine x_icmp_eq (tgt := 45) (b := 36) dX7_takePart_33 (by decide) rfl (fun hc => ?_) (fun hc => ?_)
  · replace hF := br_T hc hF
    exact x_dp (ls2 := [some (xr 7 0)]) ⟨rfl, trivial⟩ (hr_45  h hL hF)
  · replace hF := br_F hc hF
    refine x_aload_n (i := 0) (b := 37) dX7_takePart_36 rfl rfl rfl ?_
    refine x_getI (v := gI h 7 0 9) (b := 40) fk_X7_35 dX7_takePart_37 (by decide) rfl rfl ?_
    refine x_bipush (n := 20) (b := 42) dX7_takePart_40 (by decide) rfl ?_
    refine x_icmp_lt (tgt := 70) (b := 45) dX7_takePart_42 (by decide) rfl (fun hc => ?_) (fun hc => ?_)
    · replace hF := br_T hc hF
      refine x_aload_n (i := 0) (b := 71) dX7_takePart_70 rfl rfl rfl ?_
      refine x_getI (v := gI h 7 0 10) (b := 74) fk_X7_38 dX7_takePart_71 (by decide) rfl rfl ?_
      refine x_bipush (n := 15) (b := 76) dX7_takePart_74 (by decide) rfl ?_
      refine x_icmp_ne (tgt := 115) (b := 79) dX7_takePart_76 (by decide) rfl (fun hc => ?_) (fun hc => ?_)
      · replace hF := br_F hc hF
        refine x_aload_n (i := 0) (b := 116) dX7_takePart_115 rfl rfl rfl ?_
        refine x_getI (v := gI h 7 0 10) (b := 119) fk_X7_38 dX7_takePart_116 (by decide) rfl rfl ?_
        refine x_iconst (n := 4) (b := 120) dX7_takePart_119 (by decide) rfl ?_
        refine x_icmp_ne (tgt := 131) (b := 123) dX7_takePart_120 (by decide) rfl (fun hc => ?_) (fun hc => ?_)
        · replace hF := br_F hc hF
          exact x_dp (ls2 := [some (xr 7 0)]) ⟨rfl, trivial⟩ (hr_131  h hL hF)
        · replace hF := br_T hc hF
          refine x_aload_n (i := 0) (b := 124) dX7_takePart_123 rfl rfl rfl ?_
          obtain ⟨v6, h7, hq, hF⟩ := bd_e hF
          refine x_callV (as := []) (rest := []) (b := 127) (c_X7_rankOnTop d h _ hL hq) dX7_takePart_124 cw_X7_345 ⟨_, _, rfl, Nat.le_of_ble_eq_true rfl⟩ rfl rfl (Nat.le_of_ble_eq_true rfl) ⟨Nat.le_refl _, Nat.le_refl _⟩ rfl (fun rv hh hp _ => ?_)
          obtain ⟨rfl, rfl, hL⟩ := hp
          refine x_iconst (n := 4) (b := 128) dX7_takePart_127 (by decide) rfl ?_
          refine x_icmp_lt (tgt := 141) (b := 131) dX7_takePart_128 (by decide) rfl (fun hc => ?_) (fun hc => ?_)
          · replace hF := br_T hc hF
            refine x_aload_n (i := 0) (b := 142) dX7_takePart_141 rfl rfl rfl ?_
            obtain ⟨v8, h9, hq, hF⟩ := bd_e hF
            refine x_callV (as := []) (rest := []) (b := 145) (c_X7_countKnot d h7 _ hL hq) dX7_takePart_142 cw_X7_336 ⟨_, _, rfl, Nat.le_of_ble_eq_true rfl⟩ rfl rfl (Nat.le_of_ble_eq_true rfl) ⟨Nat.le_refl _, Nat.le_refl _⟩ rfl (fun rv hh hp _ => ?_)
            obtain ⟨rfl, rfl, hL⟩ := hp
            refine x_if_eq (tgt := 160) (b := 148) dX7_takePart_145 (by decide) rfl (fun hc => ?_) (fun hc => ?_)
            · replace hF := br_T hc hF
              refine x_iconst (n := 0) (b := 161) dX7_takePart_160 (by decide) rfl ?_
              refine x_zreturn dX7_takePart_161 rfl ⟨Nat.le_refl _, Nat.le_refl _⟩ (by decide) ?_
              cases hF
              exact ⟨rfl, rfl, hL⟩
            · replace hF := br_F hc hF
              refine x_aload_n (i := 0) (b := 149) dX7_takePart_148 rfl rfl rfl ?_
              refine x_iconst (n := 4) (b := 150) dX7_takePart_149 (by decide) rfl ?_
              obtain ⟨v10, h11, hq, hF⟩ := bd_e hF
              refine x_callV (as := [xi 4]) (rest := []) (b := 153) (c_X7_defer d 4 h9 _ hL hq) dX7_takePart_150 cw_X7_342 ⟨_, _, rfl, Nat.le_of_ble_eq_true rfl⟩ rfl rfl (Nat.le_of_ble_eq_true rfl) ⟨Nat.le_refl _, Nat.le_refl _⟩ rfl (fun rv hh hp _ => ?_)
              obtain ⟨rfl, rfl, hL⟩ := hp
              refine x_if_eq (tgt := 160) (b := 156) dX7_takePart_153 (by decide) rfl (fun hc => ?_) (fun hc => ?_)
              · replace hF := br_T hc hF
                refine x_iconst (n := 0) (b := 161) dX7_takePart_160 (by decide) rfl ?_
                refine x_zreturn dX7_takePart_161 rfl ⟨Nat.le_refl _, Nat.le_refl _⟩ (by decide) ?_
                cases hF
                exact ⟨rfl, rfl, hL⟩
              · replace hF := br_F hc hF
                refine x_iconst (n := 1) (b := 157) dX7_takePart_156 (by decide) rfl ?_
                refine x_goto (tgt := 161) dX7_takePart_157 (by decide) ?_
                refine x_zreturn dX7_takePart_161 rfl ⟨Nat.le_refl _, Nat.le_refl _⟩ (by decide) ?_
                cases hF
                exact ⟨rfl, rfl, hL⟩
          · replace hF := br_F hc hF
            exact x_dp (ls2 := [some (xr 7 0)]) ⟨rfl, trivial⟩ (hr_131  h7 hL hF)
      · replace hF := br_T hc hF
        refine x_aload_n (i := 0) (b := 80) dX7_takePart_79 rfl rfl rfl ?_
        refine x_getI (v := gI h 7 0 16) (b := 83) fk_X7_59 dX7_takePart_80 (by decide) rfl rfl ?_
        refine x_bipush (n := 8) (b := 85) dX7_takePart_83 (by decide) rfl ?_
        refine x_icmp_lt (tgt := 98) (b := 88) dX7_takePart_85 (by decide) rfl (fun hc => ?_) (fun hc => ?_)
        · replace hF := br_T hc hF
          refine x_aload_n (i := 0) (b := 99) dX7_takePart_98 rfl rfl rfl ?_
          refine x_dup (b := 100) dX7_takePart_99 rfl rfl ?_
          refine x_getI (v := gI h 7 0 16) (b := 103) fk_X7_59 dX7_takePart_100 (by decide) rfl rfl ?_
          refine x_iconst (n := 1) (b := 104) dX7_takePart_103 (by decide) rfl ?_
          obtain ⟨hs, hF⟩ := ck_e hF
          refine x_iadd (b := 105) dX7_takePart_104 hs rfl ?_
          refine x_putI (b := 108) fk_X7_59 dX7_takePart_105 rfl rfl 16 rfl ?_
          obtain ⟨h1, e_h1, hF⟩ := lt_e hF
          refine x_hp (h2 := h1) e_h1 ?_
          replace hL : Lay h1 := by rw [← e_h1]; exact hL
          refine x_aload_n (i := 0) (b := 109) dX7_takePart_108 rfl rfl rfl ?_
          refine x_bipush (n := 15) (b := 111) dX7_takePart_109 (by decide) rfl ?_
          obtain ⟨v2, h3, hq, hF⟩ := bd_e hF
          refine x_callV (as := [xi 15]) (rest := []) (b := 114) (c_X7_defer d 15 h1 _ hL hq) dX7_takePart_111 cw_X7_342 ⟨_, _, rfl, Nat.le_of_ble_eq_true rfl⟩ rfl rfl (Nat.le_of_ble_eq_true rfl) ⟨Nat.le_refl _, Nat.le_refl _⟩ rfl (fun rv hh hp _ => ?_)
          obtain ⟨rfl, rfl, hL⟩ := hp
          obtain ⟨hs, hF⟩ := ck_e hF
          refine x_zreturn dX7_takePart_114 rfl ⟨Nat.le_refl _, Nat.le_refl _⟩ hs ?_
          cases hF
          exact ⟨rfl, rfl, hL⟩
        · replace hF := br_F hc hF
          refine x_aload_n (i := 0) (b := 89) dX7_takePart_88 rfl rfl rfl ?_
          refine x_iconst (n := 2) (b := 90) dX7_takePart_89 (by decide) rfl ?_
          refine x_aload_n (i := 0) (b := 91) dX7_takePart_90 rfl rfl rfl ?_
          refine x_getI (v := gI h 7 0 7) (b := 94) fk_X7_29 dX7_takePart_91 (by decide) rfl rfl ?_
          obtain ⟨v4, h5, hq, hF⟩ := bd_e hF
          refine x_callV (as := [xi 2, xi (gI h 7 0 7)]) (rest := []) (b := 97) (c_X7_wrong (d + 1) 2 (gI h 7 0 7) h _ hL hq) dX7_takePart_94 cw_X7_149 ⟨_, _, rfl, Nat.le_of_ble_eq_true rfl⟩ rfl rfl (Nat.le_of_ble_eq_true rfl) ⟨Nat.le_refl _, Nat.le_refl _⟩ rfl (fun rv hh hp _ => ?_)
          obtain ⟨rfl, rfl, hL⟩ := hp
          obtain ⟨hs, hF⟩ := ck_e hF
          refine x_zreturn dX7_takePart_97 rfl ⟨Nat.le_refl _, Nat.le_refl _⟩ hs ?_
          cases hF
          exact ⟨rfl, rfl, hL⟩
    · replace hF := br_F hc hF
      exact x_dp (ls2 := [some (xr 7 0)]) ⟨rfl, trivial⟩ (hr_45  h hL hF)
set_option maxHeartbeats 4000000 in
set_option maxRecDepth 100000 in
theorem t_X7_takePart_2 (E : xE) (d : Nat) (rec : Rk) (r : Int × Hp) (h : Hp) (hL : Lay h) (hF : b_X7_takePart_2 rec  h = some r) : X E mX7_takePart (d + 3) (0, 0) (0, 0) 45 [some (xr 7 0)] [] h (PoI r) := by
  unfold b_X7_takePart_2 at hF
  refine x_aload_n (i := 0) (b := 46) dX7_takePart_45 rfl rfl rfl ?_
  refine x_iconst (n := 0) (b := 47) dX7_takePart_46 (by decide) rfl ?_
  refine x_putZ (b := 50) fk_X7_65 dX7_takePart_47 rfl (by decide) rfl 18 rfl ?_
  obtain ⟨h1, e_h1, hF⟩ := lt_e hF
  refine x_hp (h2 := h1) e_h1 ?_
  replace hL : Lay h1 := by rw [← e_h1]; exact hL
  refine x_aload_n (i := 0) (b := 51) dX7_takePart_50 rfl rfl rfl ?_
  obtain ⟨v2, h3, hq, hF⟩ := bd_e hF
  refine x_callV (as := []) (rest := []) (b := 54) (c_X7_countKnot d h1 _ hL hq) dX7_takePart_51 cw_X7_336 ⟨_, _, rfl, Nat.le_of_ble_eq_true rfl⟩ rfl rfl (Nat.le_of_ble_eq_true rfl) ⟨Nat.le_refl _, Nat.le_refl _⟩ rfl (fun rv hh hp _ => ?_)
  obtain ⟨rfl, rfl, hL⟩ := hp
  refine x_if_eq (tgt := 68) (b := 57) dX7_takePart_54 (by decide) rfl (fun hc => ?_) (fun hc => ?_)
  · replace hF := br_T hc hF
    refine x_iconst (n := 0) (b := 69) dX7_takePart_68 (by decide) rfl ?_
    refine x_zreturn dX7_takePart_69 rfl ⟨Nat.le_refl _, Nat.le_refl _⟩ (by decide) ?_
    cases hF
    exact ⟨rfl, rfl, hL⟩
  · replace hF := br_F hc hF
    refine x_aload_n (i := 0) (b := 58) dX7_takePart_57 rfl rfl rfl ?_
    obtain ⟨v4, h5, hq, hF⟩ := bd_e hF
    refine x_callV (as := []) (rest := []) (b := 61) (c_X7_addLeaf d h3 _ hL hq) dX7_takePart_58 cw_X7_339 ⟨_, _, rfl, Nat.le_of_ble_eq_true rfl⟩ rfl rfl (Nat.le_of_ble_eq_true rfl) ⟨Nat.le_refl _, Nat.le_refl _⟩ rfl (fun rv hh hp _ => ?_)
    obtain ⟨rfl, rfl, hL⟩ := hp
    refine x_if_eq (tgt := 68) (b := 64) dX7_takePart_61 (by decide) rfl (fun hc => ?_) (fun hc => ?_)
    · replace hF := br_T hc hF
      refine x_iconst (n := 0) (b := 69) dX7_takePart_68 (by decide) rfl ?_
      refine x_zreturn dX7_takePart_69 rfl ⟨Nat.le_refl _, Nat.le_refl _⟩ (by decide) ?_
      cases hF
      exact ⟨rfl, rfl, hL⟩
    · replace hF := br_F hc hF
      refine x_iconst (n := 1) (b := 65) dX7_takePart_64 (by decide) rfl ?_
      refine x_goto (tgt := 69) dX7_takePart_65 (by decide) ?_
      refine x_zreturn dX7_takePart_69 rfl ⟨Nat.le_refl _, Nat.le_refl _⟩ (by decide) ?_
      cases hF
      exact ⟨rfl, rfl, hL⟩
set_option maxHeartbeats 4000000 in
set_option maxRecDepth 100000 in
theorem t_X7_takePart_3 (E : xE) (d : Nat) (rec : Rk) (r : Int × Hp) (h : Hp) (hL : Lay h) (hF : b_X7_takePart_3 rec  h = some r) : X E mX7_takePart (d + 3) (0, 0) (0, 0) 131 [some (xr 7 0)] [] h (PoI r) := by
  unfold b_X7_takePart_3 at hF
  refine x_aload_n (i := 0) (b := 132) dX7_takePart_131 rfl rfl rfl ?_
  refine x_iconst (n := 1) (b := 133) dX7_takePart_132 (by decide) rfl ?_
  refine x_aload_n (i := 0) (b := 134) dX7_takePart_133 rfl rfl rfl ?_
  refine x_getI (v := gI h 7 0 7) (b := 137) fk_X7_29 dX7_takePart_134 (by decide) rfl rfl ?_
  obtain ⟨v1, h2, hq, hF⟩ := bd_e hF
  refine x_callV (as := [xi 1, xi (gI h 7 0 7)]) (rest := []) (b := 140) (c_X7_wrong (d + 1) 1 (gI h 7 0 7) h _ hL hq) dX7_takePart_137 cw_X7_149 ⟨_, _, rfl, Nat.le_of_ble_eq_true rfl⟩ rfl rfl (Nat.le_of_ble_eq_true rfl) ⟨Nat.le_refl _, Nat.le_refl _⟩ rfl (fun rv hh hp _ => ?_)
  obtain ⟨rfl, rfl, hL⟩ := hp
  obtain ⟨hs, hF⟩ := ck_e hF
  refine x_zreturn dX7_takePart_140 rfl ⟨Nat.le_refl _, Nat.le_refl _⟩ hs ?_
  cases hF
  exact ⟨rfl, rfl, hL⟩
set_option maxHeartbeats 4000000 in
set_option maxRecDepth 100000 in
theorem u_X7_takePart (E : xE) (d : Nat) (r : Int × Hp) : ∀ n : Nat, (∀ (h : Hp), Lay h → g_X7_takePart n 0 [] h = some r → X E mX7_takePart (d + 3) (0, 0) (0, 0) 0 [some (xr 7 0)] [] h (PoI r)) ∧ (∀ (h : Hp), Lay h → g_X7_takePart n 1 [] h = some r → X E mX7_takePart (d + 3) (0, 0) (0, 0) 28 [some (xr 7 0)] [] h (PoI r)) ∧ (∀ (h : Hp), Lay h → g_X7_takePart n 2 [] h = some r → X E mX7_takePart (d + 3) (0, 0) (0, 0) 45 [some (xr 7 0)] [] h (PoI r)) ∧ (∀ (h : Hp), Lay h → g_X7_takePart n 3 [] h = some r → X E mX7_takePart (d + 3) (0, 0) (0, 0) 131 [some (xr 7 0)] [] h (PoI r)) := by
  intro n
  induction n with
  | zero => exact ⟨fun _ _ hF => no_e (r := r) hF, fun _ _ hF => no_e (r := r) hF, fun _ _ hF => no_e (r := r) hF, fun _ _ hF => no_e (r := r) hF⟩
  | succ n ih => exact ⟨fun h hL hF => t_X7_takePart_0 E d (g_X7_takePart n) r ih.2.1  h hL hF, fun h hL hF => t_X7_takePart_1 E d (g_X7_takePart n) r ih.2.2.1 ih.2.2.2  h hL hF, fun h hL hF => t_X7_takePart_2 E d (g_X7_takePart n) r   h hL hF, fun h hL hF => t_X7_takePart_3 E d (g_X7_takePart n) r   h hL hF⟩
theorem c_X7_takePart (d : Nat) (h : Hp) (r : Int × Hp) (hL : Lay h) (hF : f_X7_takePart  h = some r) : Sp mX7_takePart (d + 3) (0, 0) [xr 7 0] h (PoI r) :=
  sp_of (by decide) rfl (Nat.le_of_ble_eq_true rfl) (ls := [some (xr 7 0)]) rfl (fun E _ => (u_X7_takePart E d r FU).1  h hL hF)
theorem dX7_takeSign_0 : decode cX7_takeSign 0 = .ok (.aload_n 0, 1) := by decide +kernel
theorem dX7_takeSign_1 : decode cX7_takeSign 1 = .ok (.getfield 38, 3) := by decide +kernel
theorem dX7_takeSign_4 : decode cX7_takeSign 4 = .ok (.bipush 16, 2) := by decide +kernel
theorem dX7_takeSign_6 : decode cX7_takeSign 6 = .ok (.if_icmp .ne 59, 3) := by decide +kernel
theorem dX7_takeSign_9 : decode cX7_takeSign 9 = .ok (.aload_n 0, 1) := by decide +kernel
theorem dX7_takeSign_10 : decode cX7_takeSign 10 = .ok (.getfield 59, 3) := by decide +kernel
theorem dX7_takeSign_13 : decode cX7_takeSign 13 = .ok (.iconst 1, 1) := by decide +kernel
theorem dX7_takeSign_14 : decode cX7_takeSign 14 = .ok (.if_icmp .ge 13, 3) := by decide +kernel
theorem dX7_takeSign_17 : decode cX7_takeSign 17 = .ok (.aload_n 0, 1) := by decide +kernel
theorem dX7_takeSign_18 : decode cX7_takeSign 18 = .ok (.iconst 1, 1) := by decide +kernel
theorem dX7_takeSign_19 : decode cX7_takeSign 19 = .ok (.aload_n 0, 1) := by decide +kernel
theorem dX7_takeSign_20 : decode cX7_takeSign 20 = .ok (.getfield 29, 3) := by decide +kernel
theorem dX7_takeSign_23 : decode cX7_takeSign 23 = .ok (.invokevirtual 149, 3) := by decide +kernel
theorem dX7_takeSign_26 : decode cX7_takeSign 26 = .ok (.ireturn, 1) := by decide +kernel
theorem dX7_takeSign_27 : decode cX7_takeSign 27 = .ok (.aload_n 0, 1) := by decide +kernel
theorem dX7_takeSign_28 : decode cX7_takeSign 28 = .ok (.iconst 1, 1) := by decide +kernel
theorem dX7_takeSign_29 : decode cX7_takeSign 29 = .ok (.invokevirtual 330, 3) := by decide +kernel
theorem dX7_takeSign_32 : decode cX7_takeSign 32 = .ok (.aload_n 0, 1) := by decide +kernel
theorem dX7_takeSign_33 : decode cX7_takeSign 33 = .ok (.dup, 1) := by decide +kernel
theorem dX7_takeSign_34 : decode cX7_takeSign 34 = .ok (.getfield 56, 3) := by decide +kernel
theorem dX7_takeSign_37 : decode cX7_takeSign 37 = .ok (.aload_n 0, 1) := by decide +kernel
theorem dX7_takeSign_38 : decode cX7_takeSign 38 = .ok (.getfield 56, 3) := by decide +kernel
theorem dX7_takeSign_41 : decode cX7_takeSign 41 = .ok (.ifCond .le 7, 3) := by decide +kernel
theorem dX7_takeSign_44 : decode cX7_takeSign 44 = .ok (.iconst 1, 1) := by decide +kernel
theorem dX7_takeSign_45 : decode cX7_takeSign 45 = .ok (.goto 4, 3) := by decide +kernel
theorem dX7_takeSign_48 : decode cX7_takeSign 48 = .ok (.iconst 0, 1) := by decide +kernel
theorem dX7_takeSign_49 : decode cX7_takeSign 49 = .ok (.isub, 1) := by decide +kernel
theorem dX7_takeSign_50 : decode cX7_takeSign 50 = .ok (.putfield 56, 3) := by decide +kernel
theorem dX7_takeSign_53 : decode cX7_takeSign 53 = .ok (.aload_n 0, 1) := by decide +kernel
theorem dX7_takeSign_54 : decode cX7_takeSign 54 = .ok (.dup, 1) := by decide +kernel
theorem dX7_takeSign_55 : decode cX7_takeSign 55 = .ok (.getfield 59, 3) := by decide +kernel
theorem dX7_takeSign_58 : decode cX7_takeSign 58 = .ok (.iconst 1, 1) := by decide +kernel
theorem dX7_takeSign_59 : decode cX7_takeSign 59 = .ok (.isub, 1) := by decide +kernel
theorem dX7_takeSign_60 : decode cX7_takeSign 60 = .ok (.putfield 59, 3) := by decide +kernel
theorem dX7_takeSign_63 : decode cX7_takeSign 63 = .ok (.iconst 1, 1) := by decide +kernel
theorem dX7_takeSign_64 : decode cX7_takeSign 64 = .ok (.ireturn, 1) := by decide +kernel
theorem dX7_takeSign_65 : decode cX7_takeSign 65 = .ok (.aload_n 0, 1) := by decide +kernel
theorem dX7_takeSign_66 : decode cX7_takeSign 66 = .ok (.getfield 38, 3) := by decide +kernel
theorem dX7_takeSign_69 : decode cX7_takeSign 69 = .ok (.invokestatic 353, 3) := by decide +kernel
theorem dX7_takeSign_72 : decode cX7_takeSign 72 = .ok (.istore_n 1, 1) := by decide +kernel
theorem dX7_takeSign_73 : decode cX7_takeSign 73 = .ok (.aload_n 0, 1) := by decide +kernel
theorem dX7_takeSign_74 : decode cX7_takeSign 74 = .ok (.iload_n 1, 1) := by decide +kernel
theorem dX7_takeSign_75 : decode cX7_takeSign 75 = .ok (.iconst 4, 1) := by decide +kernel
theorem dX7_takeSign_76 : decode cX7_takeSign 76 = .ok (.if_icmp .ne 9, 3) := by decide +kernel
theorem dX7_takeSign_79 : decode cX7_takeSign 79 = .ok (.iload_n 1, 1) := by decide +kernel
theorem dX7_takeSign_80 : decode cX7_takeSign 80 = .ok (.iconst 1, 1) := by decide +kernel
theorem dX7_takeSign_81 : decode cX7_takeSign 81 = .ok (.iadd, 1) := by decide +kernel
theorem dX7_takeSign_82 : decode cX7_takeSign 82 = .ok (.goto 4, 3) := by decide +kernel
theorem dX7_takeSign_85 : decode cX7_takeSign 85 = .ok (.iload_n 1, 1) := by decide +kernel
theorem dX7_takeSign_86 : decode cX7_takeSign 86 = .ok (.invokevirtual 330, 3) := by decide +kernel
theorem dX7_takeSign_89 : decode cX7_takeSign 89 = .ok (.iload_n 1, 1) := by decide +kernel
theorem dX7_takeSign_90 : decode cX7_takeSign 90 = .ok (.iconst 4, 1) := by decide +kernel
theorem dX7_takeSign_91 : decode cX7_takeSign 91 = .ok (.if_icmp .ne 21, 3) := by decide +kernel
theorem dX7_takeSign_94 : decode cX7_takeSign 94 = .ok (.aload_n 0, 1) := by decide +kernel
theorem dX7_takeSign_95 : decode cX7_takeSign 95 = .ok (.invokevirtual 345, 3) := by decide +kernel
theorem dX7_takeSign_98 : decode cX7_takeSign 98 = .ok (.iconst 4, 1) := by decide +kernel
theorem dX7_takeSign_99 : decode cX7_takeSign 99 = .ok (.if_icmp .ne 13, 3) := by decide +kernel
theorem dX7_takeSign_102 : decode cX7_takeSign 102 = .ok (.aload_n 0, 1) := by decide +kernel
theorem dX7_takeSign_103 : decode cX7_takeSign 103 = .ok (.iconst 1, 1) := by decide +kernel
theorem dX7_takeSign_104 : decode cX7_takeSign 104 = .ok (.aload_n 0, 1) := by decide +kernel
theorem dX7_takeSign_105 : decode cX7_takeSign 105 = .ok (.getfield 29, 3) := by decide +kernel
theorem dX7_takeSign_108 : decode cX7_takeSign 108 = .ok (.invokevirtual 149, 3) := by decide +kernel
theorem dX7_takeSign_111 : decode cX7_takeSign 111 = .ok (.ireturn, 1) := by decide +kernel
theorem dX7_takeSign_112 : decode cX7_takeSign 112 = .ok (.aload_n 0, 1) := by decide +kernel
theorem dX7_takeSign_113 : decode cX7_takeSign 113 = .ok (.iconst 1, 1) := by decide +kernel
theorem dX7_takeSign_114 : decode cX7_takeSign 114 = .ok (.putfield 65, 3) := by decide +kernel
theorem dX7_takeSign_117 : decode cX7_takeSign 117 = .ok (.aload_n 0, 1) := by decide +kernel
theorem dX7_takeSign_118 : decode cX7_takeSign 118 = .ok (.invokevirtual 336, 3) := by decide +kernel
theorem dX7_takeSign_121 : decode cX7_takeSign 121 = .ok (.ifCond .eq 18, 3) := by decide +kernel
theorem dX7_takeSign_124 : decode cX7_takeSign 124 = .ok (.aload_n 0, 1) := by decide +kernel
theorem dX7_takeSign_125 : decode cX7_takeSign 125 = .ok (.aload_n 0, 1) := by decide +kernel
theorem dX7_takeSign_126 : decode cX7_takeSign 126 = .ok (.getfield 38, 3) := by decide +kernel
theorem dX7_takeSign_129 : decode cX7_takeSign 129 = .ok (.invokevirtual 342, 3) := by decide +kernel
theorem dX7_takeSign_132 : decode cX7_takeSign 132 = .ok (.ifCond .eq 7, 3) := by decide +kernel
theorem dX7_takeSign_135 : decode cX7_takeSign 135 = .ok (.iconst 1, 1) := by decide +kernel
theorem dX7_takeSign_136 : decode cX7_takeSign 136 = .ok (.goto 4, 3) := by decide +kernel
theorem dX7_takeSign_139 : decode cX7_takeSign 139 = .ok (.iconst 0, 1) := by decide +kernel
theorem dX7_takeSign_140 : decode cX7_takeSign 140 = .ok (.ireturn, 1) := by decide +kernel
noncomputable def b_X7_takeSign_0 (rec : Rk) (h : Hp) : Option (Int × Hp) :=
  if (gI h 7 0 10) = 16 then (
    if 1 ≤ (gI h 7 0 16) then (
      bd (f_X7_release 1 h) fun v1 h2 =>
      if (gI h2 7 0 15) ≤ 0 then (
        rec 1 [0, gI h2 7 0 15] h2
      ) else (
        rec 1 [1, gI h2 7 0 15] h2
      )
    ) else (
      bd (f_X7_wrong 1 (gI h 7 0 7) h) fun v3 h4 =>
      ck (0 ≤ v3 ∧ v3 < 2) <|
      some (v3, h4)
    )
  ) else (
    bd (f_X7_rankOf (gI h 7 0 10) h) fun v5 h6 =>
    if v5 = 4 then (
      ck (-2147483648 ≤ v5 + 1 ∧ v5 + 1 < 2147483648) <|
      rec 2 [v5, v5 + 1] h6
    ) else (
      rec 2 [v5, v5] h6
    )
  )
noncomputable def b_X7_takeSign_1 (rec : Rk) (y0 y1 : Int) (h : Hp) : Option (Int × Hp) :=
  ck (-2147483648 ≤ y1 - y0 ∧ y1 - y0 < 2147483648) <|
  lt (sI h 7 0 15 (y1 - y0)) fun h1 =>
  ck (-2147483648 ≤ (gI h1 7 0 16) - 1 ∧ (gI h1 7 0 16) - 1 < 2147483648) <|
  lt (sI h1 7 0 16 ((gI h1 7 0 16) - 1)) fun h2 =>
  some (1, h2)
noncomputable def b_X7_takeSign_2 (rec : Rk) (x1 y0 : Int) (h : Hp) : Option (Int × Hp) :=
  bd (f_X7_release y0 h) fun v1 h2 =>
  if x1 = 4 then (
    bd (f_X7_rankOnTop h2) fun v3 h4 =>
    if v3 = 4 then (
      bd (f_X7_wrong 1 (gI h4 7 0 7) h4) fun v5 h6 =>
      ck (0 ≤ v5 ∧ v5 < 2) <|
      some (v5, h6)
    ) else (
      rec 3 [] h4
    )
  ) else (
    rec 3 [] h2
  )
noncomputable def b_X7_takeSign_3 (rec : Rk) (h : Hp) : Option (Int × Hp) :=
  lt (sI h 7 0 18 1) fun h1 =>
  bd (f_X7_countKnot h1) fun v2 h3 =>
  if v2 = 0 then (
    some (0, h3)
  ) else (
    bd (f_X7_defer (gI h3 7 0 10) h3) fun v4 h5 =>
    if v4 = 0 then (
      some (0, h5)
    ) else (
      some (1, h5)
    )
  )
noncomputable def g_X7_takeSign (n : Nat) : Rk := Nat.rec (motive := fun _ => Rk) (fun _ _ _ => none) (fun _ rec k l h => if k = 0 then b_X7_takeSign_0 rec  h else if k = 1 then b_X7_takeSign_1 rec (l.getD 0 0) (l.getD 1 0) h else if k = 2 then b_X7_takeSign_2 rec (l.getD 0 0) (l.getD 1 0) h else if k = 3 then b_X7_takeSign_3 rec  h else none) n
noncomputable def f_X7_takeSign (h : Hp) : Option (Int × Hp) := g_X7_takeSign FU 0 [] h
set_option maxHeartbeats 4000000 in
set_option maxRecDepth 100000 in
theorem t_X7_takeSign_0 (E : xE) (d : Nat) (rec : Rk) (r : Int × Hp) (hr_49 : ∀ (y0 y1 : Int) (h : Hp), Lay h → rec 1 [y0, y1] h = some r → X E mX7_takeSign (d + 3) (0, 0) (0, 0) 49 [some (xr 7 0), none] [xi y0, xi y1, xr 7 0] h (PoI r)) (hr_86 : ∀ (x1 y0 : Int) (h : Hp), Lay h → rec 2 [x1, y0] h = some r → X E mX7_takeSign (d + 3) (0, 0) (0, 0) 86 [some (xr 7 0), some (xi x1)] [xi y0, xr 7 0] h (PoI r)) (h : Hp) (hL : Lay h) (hF : b_X7_takeSign_0 rec  h = some r) : X E mX7_takeSign (d + 3) (0, 0) (0, 0) 0 [some (xr 7 0), none] [] h (PoI r) := by
  unfold b_X7_takeSign_0 at hF
  refine x_aload_n (i := 0) (b := 1) dX7_takeSign_0 rfl rfl rfl ?_
  refine x_getI (v := gI h 7 0 10) (b := 4) fk_X7_38 dX7_takeSign_1 (by decide) rfl rfl ?_
  refine x_bipush (n := 16) (b := 6) dX7_takeSign_4 (by decide) rfl ?_
  refine x_icmp_ne (tgt := 65) (b := 9) dX7_takeSign_6 (by decide) rfl (fun hc => ?_) (fun hc => ?_)
  · replace hF := br_F hc hF
    refine x_aload_n (i := 0) (b := 66) dX7_takeSign_65 rfl rfl rfl ?_
    refine x_getI (v := gI h 7 0 10) (b := 69) fk_X7_38 dX7_takeSign_66 (by decide) rfl rfl ?_
    obtain ⟨v5, h6, hq, hF⟩ := bd_e hF
    refine x_callS (as := [xi (gI h 7 0 10)]) (rest := []) (b := 72) (c_X7_rankOf (d + 1) (gI h 7 0 10) h _ hL hq) dX7_takeSign_69 cw_X7_353 rfl rfl (Nat.le_of_ble_eq_true rfl) ⟨Nat.le_refl _, Nat.le_refl _⟩ rfl (fun rv hh hp _ => ?_)
    obtain ⟨rfl, rfl, hL⟩ := hp
    refine x_istore_n (i := 1) (b := 73) (ls2 := [some (xr 7 0), some (xi v5)]) dX7_takeSign_72 rfl (Nat.le_of_ble_eq_true rfl) rfl rfl ?_
    refine x_aload_n (i := 0) (b := 74) dX7_takeSign_73 rfl rfl rfl ?_
    refine x_iload_n (i := 1) (b := 75) dX7_takeSign_74 rfl rfl rfl ?_
    refine x_iconst (n := 4) (b := 76) dX7_takeSign_75 (by decide) rfl ?_
    refine x_icmp_ne (tgt := 85) (b := 79) dX7_takeSign_76 (by decide) rfl (fun hc => ?_) (fun hc => ?_)
    · replace hF := br_F hc hF
      refine x_iload_n (i := 1) (b := 86) dX7_takeSign_85 rfl rfl rfl ?_
      exact x_dp (ls2 := [some (xr 7 0), some (xi v5)]) ⟨rfl, rfl, trivial⟩ (hr_86 v5 v5 h6 hL hF)
    · replace hF := br_T hc hF
      refine x_iload_n (i := 1) (b := 80) dX7_takeSign_79 rfl rfl rfl ?_
      refine x_iconst (n := 1) (b := 81) dX7_takeSign_80 (by decide) rfl ?_
      obtain ⟨hs, hF⟩ := ck_e hF
      refine x_iadd (b := 82) dX7_takeSign_81 hs rfl ?_
      refine x_goto (tgt := 86) dX7_takeSign_82 (by decide) ?_
      exact x_dp (ls2 := [some (xr 7 0), some (xi v5)]) ⟨rfl, rfl, trivial⟩ (hr_86 v5 (v5 + 1) h6 hL hF)
  · replace hF := br_T hc hF
    refine x_aload_n (i := 0) (b := 10) dX7_takeSign_9 rfl rfl rfl ?_
    refine x_getI (v := gI h 7 0 16) (b := 13) fk_X7_59 dX7_takeSign_10 (by decide) rfl rfl ?_
    refine x_iconst (n := 1) (b := 14) dX7_takeSign_13 (by decide) rfl ?_
    refine x_icmp_ge (tgt := 27) (b := 17) dX7_takeSign_14 (by decide) rfl (fun hc => ?_) (fun hc => ?_)
    · replace hF := br_T hc hF
      refine x_aload_n (i := 0) (b := 28) dX7_takeSign_27 rfl rfl rfl ?_
      refine x_iconst (n := 1) (b := 29) dX7_takeSign_28 (by decide) rfl ?_
      obtain ⟨v1, h2, hq, hF⟩ := bd_e hF
      refine x_callV (as := [xi 1]) (rest := []) (b := 32) (c_X7_release d 1 h _ hL hq) dX7_takeSign_29 cw_X7_330 ⟨_, _, rfl, Nat.le_of_ble_eq_true rfl⟩ rfl rfl (Nat.le_of_ble_eq_true rfl) ⟨Nat.le_refl _, Nat.le_refl _⟩ rfl (fun rv hh hp _ => ?_)
      obtain ⟨rfl, rfl, hL⟩ := hp
      refine x_aload_n (i := 0) (b := 33) dX7_takeSign_32 rfl rfl rfl ?_
      refine x_dup (b := 34) dX7_takeSign_33 rfl rfl ?_
      refine x_getI (v := gI h2 7 0 15) (b := 37) fk_X7_56 dX7_takeSign_34 (by decide) rfl rfl ?_
      refine x_aload_n (i := 0) (b := 38) dX7_takeSign_37 rfl rfl rfl ?_
      refine x_getI (v := gI h2 7 0 15) (b := 41) fk_X7_56 dX7_takeSign_38 (by decide) rfl rfl ?_
      refine x_if_le (tgt := 48) (b := 44) dX7_takeSign_41 (by decide) rfl (fun hc => ?_) (fun hc => ?_)
      · replace hF := br_T hc hF
        refine x_iconst (n := 0) (b := 49) dX7_takeSign_48 (by decide) rfl ?_
        exact x_dp (ls2 := [some (xr 7 0), none]) ⟨rfl, trivial⟩ (hr_49 0 (gI h2 7 0 15) h2 hL hF)
      · replace hF := br_F hc hF
        refine x_iconst (n := 1) (b := 45) dX7_takeSign_44 (by decide) rfl ?_
        refine x_goto (tgt := 49) dX7_takeSign_45 (by decide) ?_
        exact x_dp (ls2 := [some (xr 7 0), none]) ⟨rfl, trivial⟩ (hr_49 1 (gI h2 7 0 15) h2 hL hF)
    · replace hF := br_F hc hF
      refine x_aload_n (i := 0) (b := 18) dX7_takeSign_17 rfl rfl rfl ?_
      refine x_iconst (n := 1) (b := 19) dX7_takeSign_18 (by decide) rfl ?_
      refine x_aload_n (i := 0) (b := 20) dX7_takeSign_19 rfl rfl rfl ?_
      refine x_getI (v := gI h 7 0 7) (b := 23) fk_X7_29 dX7_takeSign_20 (by decide) rfl rfl ?_
      obtain ⟨v3, h4, hq, hF⟩ := bd_e hF
      refine x_callV (as := [xi 1, xi (gI h 7 0 7)]) (rest := []) (b := 26) (c_X7_wrong (d + 1) 1 (gI h 7 0 7) h _ hL hq) dX7_takeSign_23 cw_X7_149 ⟨_, _, rfl, Nat.le_of_ble_eq_true rfl⟩ rfl rfl (Nat.le_of_ble_eq_true rfl) ⟨Nat.le_refl _, Nat.le_refl _⟩ rfl (fun rv hh hp _ => ?_)
      obtain ⟨rfl, rfl, hL⟩ := hp
      obtain ⟨hs, hF⟩ := ck_e hF
      refine x_zreturn dX7_takeSign_26 rfl ⟨Nat.le_refl _, Nat.le_refl _⟩ hs ?_
      cases hF
      exact ⟨rfl, rfl, hL⟩
set_option maxHeartbeats 4000000 in
set_option maxRecDepth 100000 in
theorem t_X7_takeSign_1 (E : xE) (d : Nat) (rec : Rk) (r : Int × Hp) (y0 y1 : Int) (h : Hp) (hL : Lay h) (hF : b_X7_takeSign_1 rec y0 y1 h = some r) : X E mX7_takeSign (d + 3) (0, 0) (0, 0) 49 [some (xr 7 0), none] [xi y0, xi y1, xr 7 0] h (PoI r) := by
  unfold b_X7_takeSign_1 at hF
  obtain ⟨hs, hF⟩ := ck_e hF
  refine x_isub (b := 50) dX7_takeSign_49 hs rfl ?_
  refine x_putI (b := 53) fk_X7_56 dX7_takeSign_50 rfl rfl 15 rfl ?_
  obtain ⟨h1, e_h1, hF⟩ := lt_e hF
  refine x_hp (h2 := h1) e_h1 ?_
  replace hL : Lay h1 := by rw [← e_h1]; exact hL
  refine x_aload_n (i := 0) (b := 54) dX7_takeSign_53 rfl rfl rfl ?_
  refine x_dup (b := 55) dX7_takeSign_54 rfl rfl ?_
  refine x_getI (v := gI h1 7 0 16) (b := 58) fk_X7_59 dX7_takeSign_55 (by decide) rfl rfl ?_
  refine x_iconst (n := 1) (b := 59) dX7_takeSign_58 (by decide) rfl ?_
  obtain ⟨hs, hF⟩ := ck_e hF
  refine x_isub (b := 60) dX7_takeSign_59 hs rfl ?_
  refine x_putI (b := 63) fk_X7_59 dX7_takeSign_60 rfl rfl 16 rfl ?_
  obtain ⟨h2, e_h2, hF⟩ := lt_e hF
  refine x_hp (h2 := h2) e_h2 ?_
  replace hL : Lay h2 := by rw [← e_h2]; exact hL
  refine x_iconst (n := 1) (b := 64) dX7_takeSign_63 (by decide) rfl ?_
  refine x_zreturn dX7_takeSign_64 rfl ⟨Nat.le_refl _, Nat.le_refl _⟩ (by decide) ?_
  cases hF
  exact ⟨rfl, rfl, hL⟩
set_option maxHeartbeats 4000000 in
set_option maxRecDepth 100000 in
theorem t_X7_takeSign_2 (E : xE) (d : Nat) (rec : Rk) (r : Int × Hp) (hr_112 : ∀ (h : Hp), Lay h → rec 3 [] h = some r → X E mX7_takeSign (d + 3) (0, 0) (0, 0) 112 [some (xr 7 0), none] [] h (PoI r)) (x1 y0 : Int) (h : Hp) (hL : Lay h) (hF : b_X7_takeSign_2 rec x1 y0 h = some r) : X E mX7_takeSign (d + 3) (0, 0) (0, 0) 86 [some (xr 7 0), some (xi x1)] [xi y0, xr 7 0] h (PoI r) := by
  unfold b_X7_takeSign_2 at hF
  obtain ⟨v1, h2, hq, hF⟩ := bd_e hF
  refine x_callV (as := [xi y0]) (rest := []) (b := 89) (c_X7_release d y0 h _ hL hq) dX7_takeSign_86 cw_X7_330 ⟨_, _, rfl, Nat.le_of_ble_eq_true rfl⟩ rfl rfl (Nat.le_of_ble_eq_true rfl) ⟨Nat.le_refl _, Nat.le_refl _⟩ rfl (fun rv hh hp _ => ?_)
  obtain ⟨rfl, rfl, hL⟩ := hp
  refine x_iload_n (i := 1) (b := 90) dX7_takeSign_89 rfl rfl rfl ?_
  refine x_iconst (n := 4) (b := 91) dX7_takeSign_90 (by decide) rfl ?_
  refine x_icmp_ne (tgt := 112) (b := 94) dX7_takeSign_91 (by decide) rfl (fun hc => ?_) (fun hc => ?_)
  · replace hF := br_F hc hF
    exact x_dp (ls2 := [some (xr 7 0), none]) ⟨rfl, trivial⟩ (hr_112  h2 hL hF)
  · replace hF := br_T hc hF
    refine x_aload_n (i := 0) (b := 95) dX7_takeSign_94 rfl rfl rfl ?_
    obtain ⟨v3, h4, hq, hF⟩ := bd_e hF
    refine x_callV (as := []) (rest := []) (b := 98) (c_X7_rankOnTop d h2 _ hL hq) dX7_takeSign_95 cw_X7_345 ⟨_, _, rfl, Nat.le_of_ble_eq_true rfl⟩ rfl rfl (Nat.le_of_ble_eq_true rfl) ⟨Nat.le_refl _, Nat.le_refl _⟩ rfl (fun rv hh hp _ => ?_)
    obtain ⟨rfl, rfl, hL⟩ := hp
    refine x_iconst (n := 4) (b := 99) dX7_takeSign_98 (by decide) rfl ?_
    refine x_icmp_ne (tgt := 112) (b := 102) dX7_takeSign_99 (by decide) rfl (fun hc => ?_) (fun hc => ?_)
    · replace hF := br_F hc hF
      exact x_dp (ls2 := [some (xr 7 0), none]) ⟨rfl, trivial⟩ (hr_112  h4 hL hF)
    · replace hF := br_T hc hF
      refine x_aload_n (i := 0) (b := 103) dX7_takeSign_102 rfl rfl rfl ?_
      refine x_iconst (n := 1) (b := 104) dX7_takeSign_103 (by decide) rfl ?_
      refine x_aload_n (i := 0) (b := 105) dX7_takeSign_104 rfl rfl rfl ?_
      refine x_getI (v := gI h4 7 0 7) (b := 108) fk_X7_29 dX7_takeSign_105 (by decide) rfl rfl ?_
      obtain ⟨v5, h6, hq, hF⟩ := bd_e hF
      refine x_callV (as := [xi 1, xi (gI h4 7 0 7)]) (rest := []) (b := 111) (c_X7_wrong (d + 1) 1 (gI h4 7 0 7) h4 _ hL hq) dX7_takeSign_108 cw_X7_149 ⟨_, _, rfl, Nat.le_of_ble_eq_true rfl⟩ rfl rfl (Nat.le_of_ble_eq_true rfl) ⟨Nat.le_refl _, Nat.le_refl _⟩ rfl (fun rv hh hp _ => ?_)
      obtain ⟨rfl, rfl, hL⟩ := hp
      obtain ⟨hs, hF⟩ := ck_e hF
      refine x_zreturn dX7_takeSign_111 rfl ⟨Nat.le_refl _, Nat.le_refl _⟩ hs ?_
      cases hF
      exact ⟨rfl, rfl, hL⟩
set_option maxHeartbeats 4000000 in
set_option maxRecDepth 100000 in
theorem t_X7_takeSign_3 (E : xE) (d : Nat) (rec : Rk) (r : Int × Hp) (h : Hp) (hL : Lay h) (hF : b_X7_takeSign_3 rec  h = some r) : X E mX7_takeSign (d + 3) (0, 0) (0, 0) 112 [some (xr 7 0), none] [] h (PoI r) := by
  unfold b_X7_takeSign_3 at hF
  refine x_aload_n (i := 0) (b := 113) dX7_takeSign_112 rfl rfl rfl ?_
  refine x_iconst (n := 1) (b := 114) dX7_takeSign_113 (by decide) rfl ?_
  refine x_putZ (b := 117) fk_X7_65 dX7_takeSign_114 rfl (by decide) rfl 18 rfl ?_
  obtain ⟨h1, e_h1, hF⟩ := lt_e hF
  refine x_hp (h2 := h1) e_h1 ?_
  replace hL : Lay h1 := by rw [← e_h1]; exact hL
  refine x_aload_n (i := 0) (b := 118) dX7_takeSign_117 rfl rfl rfl ?_
  obtain ⟨v2, h3, hq, hF⟩ := bd_e hF
  refine x_callV (as := []) (rest := []) (b := 121) (c_X7_countKnot d h1 _ hL hq) dX7_takeSign_118 cw_X7_336 ⟨_, _, rfl, Nat.le_of_ble_eq_true rfl⟩ rfl rfl (Nat.le_of_ble_eq_true rfl) ⟨Nat.le_refl _, Nat.le_refl _⟩ rfl (fun rv hh hp _ => ?_)
  obtain ⟨rfl, rfl, hL⟩ := hp
  refine x_if_eq (tgt := 139) (b := 124) dX7_takeSign_121 (by decide) rfl (fun hc => ?_) (fun hc => ?_)
  · replace hF := br_T hc hF
    refine x_iconst (n := 0) (b := 140) dX7_takeSign_139 (by decide) rfl ?_
    refine x_zreturn dX7_takeSign_140 rfl ⟨Nat.le_refl _, Nat.le_refl _⟩ (by decide) ?_
    cases hF
    exact ⟨rfl, rfl, hL⟩
  · replace hF := br_F hc hF
    refine x_aload_n (i := 0) (b := 125) dX7_takeSign_124 rfl rfl rfl ?_
    refine x_aload_n (i := 0) (b := 126) dX7_takeSign_125 rfl rfl rfl ?_
    refine x_getI (v := gI h3 7 0 10) (b := 129) fk_X7_38 dX7_takeSign_126 (by decide) rfl rfl ?_
    obtain ⟨v4, h5, hq, hF⟩ := bd_e hF
    refine x_callV (as := [xi (gI h3 7 0 10)]) (rest := []) (b := 132) (c_X7_defer d (gI h3 7 0 10) h3 _ hL hq) dX7_takeSign_129 cw_X7_342 ⟨_, _, rfl, Nat.le_of_ble_eq_true rfl⟩ rfl rfl (Nat.le_of_ble_eq_true rfl) ⟨Nat.le_refl _, Nat.le_refl _⟩ rfl (fun rv hh hp _ => ?_)
    obtain ⟨rfl, rfl, hL⟩ := hp
    refine x_if_eq (tgt := 139) (b := 135) dX7_takeSign_132 (by decide) rfl (fun hc => ?_) (fun hc => ?_)
    · replace hF := br_T hc hF
      refine x_iconst (n := 0) (b := 140) dX7_takeSign_139 (by decide) rfl ?_
      refine x_zreturn dX7_takeSign_140 rfl ⟨Nat.le_refl _, Nat.le_refl _⟩ (by decide) ?_
      cases hF
      exact ⟨rfl, rfl, hL⟩
    · replace hF := br_F hc hF
      refine x_iconst (n := 1) (b := 136) dX7_takeSign_135 (by decide) rfl ?_
      refine x_goto (tgt := 140) dX7_takeSign_136 (by decide) ?_
      refine x_zreturn dX7_takeSign_140 rfl ⟨Nat.le_refl _, Nat.le_refl _⟩ (by decide) ?_
      cases hF
      exact ⟨rfl, rfl, hL⟩
set_option maxHeartbeats 4000000 in
set_option maxRecDepth 100000 in
theorem u_X7_takeSign (E : xE) (d : Nat) (r : Int × Hp) : ∀ n : Nat, (∀ (h : Hp), Lay h → g_X7_takeSign n 0 [] h = some r → X E mX7_takeSign (d + 3) (0, 0) (0, 0) 0 [some (xr 7 0), none] [] h (PoI r)) ∧ (∀ (y0 y1 : Int) (h : Hp), Lay h → g_X7_takeSign n 1 [y0, y1] h = some r → X E mX7_takeSign (d + 3) (0, 0) (0, 0) 49 [some (xr 7 0), none] [xi y0, xi y1, xr 7 0] h (PoI r)) ∧ (∀ (x1 y0 : Int) (h : Hp), Lay h → g_X7_takeSign n 2 [x1, y0] h = some r → X E mX7_takeSign (d + 3) (0, 0) (0, 0) 86 [some (xr 7 0), some (xi x1)] [xi y0, xr 7 0] h (PoI r)) ∧ (∀ (h : Hp), Lay h → g_X7_takeSign n 3 [] h = some r → X E mX7_takeSign (d + 3) (0, 0) (0, 0) 112 [some (xr 7 0), none] [] h (PoI r)) := by
  intro n
  induction n with
  | zero => exact ⟨fun _ _ hF => no_e (r := r) hF, fun _ _ _ _ hF => no_e (r := r) hF, fun _ _ _ _ hF => no_e (r := r) hF, fun _ _ hF => no_e (r := r) hF⟩
  | succ n ih => exact ⟨fun h hL hF => t_X7_takeSign_0 E d (g_X7_takeSign n) r ih.2.1 ih.2.2.1  h hL hF, fun y0 y1 h hL hF => t_X7_takeSign_1 E d (g_X7_takeSign n) r  y0 y1 h hL hF, fun x1 y0 h hL hF => t_X7_takeSign_2 E d (g_X7_takeSign n) r ih.2.2.2 x1 y0 h hL hF, fun h hL hF => t_X7_takeSign_3 E d (g_X7_takeSign n) r   h hL hF⟩
theorem c_X7_takeSign (d : Nat) (h : Hp) (r : Int × Hp) (hL : Lay h) (hF : f_X7_takeSign  h = some r) : Sp mX7_takeSign (d + 3) (0, 0) [xr 7 0] h (PoI r) :=
  sp_of (by decide) rfl (Nat.le_of_ble_eq_true rfl) (ls := [some (xr 7 0), none]) rfl (fun E _ => (u_X7_takeSign E d r FU).1  h hL hF)
theorem dX7_tellOnce_0 : decode cX7_tellOnce 0 = .ok (.aload_n 0, 1) := by decide +kernel
theorem dX7_tellOnce_1 : decode cX7_tellOnce 1 = .ok (.iload_n 1, 1) := by decide +kernel
theorem dX7_tellOnce_2 : decode cX7_tellOnce 2 = .ok (.invokevirtual 155, 3) := by decide +kernel
theorem dX7_tellOnce_5 : decode cX7_tellOnce 5 = .ok (.ifCond .eq 10, 3) := by decide +kernel
theorem dX7_tellOnce_8 : decode cX7_tellOnce 8 = .ok (.aload_n 0, 1) := by decide +kernel
theorem dX7_tellOnce_9 : decode cX7_tellOnce 9 = .ok (.iconst 3, 1) := by decide +kernel
theorem dX7_tellOnce_10 : decode cX7_tellOnce 10 = .ok (.iload_n 2, 1) := by decide +kernel
theorem dX7_tellOnce_11 : decode cX7_tellOnce 11 = .ok (.invokevirtual 149, 3) := by decide +kernel
theorem dX7_tellOnce_14 : decode cX7_tellOnce 14 = .ok (.ireturn, 1) := by decide +kernel
theorem dX7_tellOnce_15 : decode cX7_tellOnce 15 = .ok (.aload_n 0, 1) := by decide +kernel
theorem dX7_tellOnce_16 : decode cX7_tellOnce 16 = .ok (.dup, 1) := by decide +kernel
theorem dX7_tellOnce_17 : decode cX7_tellOnce 17 = .ok (.getfield 47, 3) := by decide +kernel
theorem dX7_tellOnce_20 : decode cX7_tellOnce 20 = .ok (.iconst 1, 1) := by decide +kernel
theorem dX7_tellOnce_21 : decode cX7_tellOnce 21 = .ok (.iload_n 1, 1) := by decide +kernel
theorem dX7_tellOnce_22 : decode cX7_tellOnce 22 = .ok (.ishl, 1) := by decide +kernel
theorem dX7_tellOnce_23 : decode cX7_tellOnce 23 = .ok (.ior, 1) := by decide +kernel
theorem dX7_tellOnce_24 : decode cX7_tellOnce 24 = .ok (.putfield 47, 3) := by decide +kernel
theorem dX7_tellOnce_27 : decode cX7_tellOnce 27 = .ok (.iconst 1, 1) := by decide +kernel
theorem dX7_tellOnce_28 : decode cX7_tellOnce 28 = .ok (.ireturn, 1) := by decide +kernel
noncomputable def b_X7_tellOnce_0 (rec : Rk) (x1 x2 : Int) (h : Hp) : Option (Int × Hp) :=
  bd (f_X7_isTold x1 h) fun v1 h2 =>
  if v1 = 0 then (
    lt (sI h2 7 0 13 (bor (gI h2 7 0 13) (bshl 1 x1))) fun h3 =>
    some (1, h3)
  ) else (
    bd (f_X7_wrong 3 x2 h2) fun v4 h5 =>
    ck (0 ≤ v4 ∧ v4 < 2) <|
    some (v4, h5)
  )
noncomputable def g_X7_tellOnce (n : Nat) : Rk := Nat.rec (motive := fun _ => Rk) (fun _ _ _ => none) (fun _ rec k l h => if k = 0 then b_X7_tellOnce_0 rec (l.getD 0 0) (l.getD 1 0) h else none) n
noncomputable def f_X7_tellOnce (x1 x2 : Int) (h : Hp) : Option (Int × Hp) := g_X7_tellOnce FU 0 [x1, x2] h
set_option maxHeartbeats 4000000 in
set_option maxRecDepth 100000 in
theorem t_X7_tellOnce_0 (E : xE) (d : Nat) (rec : Rk) (r : Int × Hp) (x1 x2 : Int) (h : Hp) (hL : Lay h) (hF : b_X7_tellOnce_0 rec x1 x2 h = some r) : X E mX7_tellOnce (d + 2) (0, 0) (0, 0) 0 [some (xr 7 0), some (xi x1), some (xi x2)] [] h (PoI r) := by
  unfold b_X7_tellOnce_0 at hF
  refine x_aload_n (i := 0) (b := 1) dX7_tellOnce_0 rfl rfl rfl ?_
  refine x_iload_n (i := 1) (b := 2) dX7_tellOnce_1 rfl rfl rfl ?_
  obtain ⟨v1, h2, hq, hF⟩ := bd_e hF
  refine x_callV (as := [xi x1]) (rest := []) (b := 5) (c_X7_isTold d x1 h _ hL hq) dX7_tellOnce_2 cw_X7_155 ⟨_, _, rfl, Nat.le_of_ble_eq_true rfl⟩ rfl rfl (Nat.le_of_ble_eq_true rfl) ⟨Nat.le_refl _, Nat.le_refl _⟩ rfl (fun rv hh hp _ => ?_)
  obtain ⟨rfl, rfl, hL⟩ := hp
  refine x_if_eq (tgt := 15) (b := 8) dX7_tellOnce_5 (by decide) rfl (fun hc => ?_) (fun hc => ?_)
  · replace hF := br_T hc hF
    refine x_aload_n (i := 0) (b := 16) dX7_tellOnce_15 rfl rfl rfl ?_
    refine x_dup (b := 17) dX7_tellOnce_16 rfl rfl ?_
    refine x_getI (v := gI h2 7 0 13) (b := 20) fk_X7_47 dX7_tellOnce_17 (by decide) rfl rfl ?_
    refine x_iconst (n := 1) (b := 21) dX7_tellOnce_20 (by decide) rfl ?_
    refine x_iload_n (i := 1) (b := 22) dX7_tellOnce_21 rfl rfl rfl ?_
    refine x_ishl (b := 23) dX7_tellOnce_22 rfl ?_
    refine x_ior (b := 24) dX7_tellOnce_23 rfl ?_
    refine x_putI (b := 27) fk_X7_47 dX7_tellOnce_24 rfl rfl 13 rfl ?_
    obtain ⟨h3, e_h3, hF⟩ := lt_e hF
    refine x_hp (h2 := h3) e_h3 ?_
    replace hL : Lay h3 := by rw [← e_h3]; exact hL
    refine x_iconst (n := 1) (b := 28) dX7_tellOnce_27 (by decide) rfl ?_
    refine x_zreturn dX7_tellOnce_28 rfl ⟨Nat.le_refl _, Nat.le_refl _⟩ (by decide) ?_
    cases hF
    exact ⟨rfl, rfl, hL⟩
  · replace hF := br_F hc hF
    refine x_aload_n (i := 0) (b := 9) dX7_tellOnce_8 rfl rfl rfl ?_
    refine x_iconst (n := 3) (b := 10) dX7_tellOnce_9 (by decide) rfl ?_
    refine x_iload_n (i := 2) (b := 11) dX7_tellOnce_10 rfl rfl rfl ?_
    obtain ⟨v4, h5, hq, hF⟩ := bd_e hF
    refine x_callV (as := [xi 3, xi x2]) (rest := []) (b := 14) (c_X7_wrong d 3 x2 h2 _ hL hq) dX7_tellOnce_11 cw_X7_149 ⟨_, _, rfl, Nat.le_of_ble_eq_true rfl⟩ rfl rfl (Nat.le_of_ble_eq_true rfl) ⟨Nat.le_refl _, Nat.le_refl _⟩ rfl (fun rv hh hp _ => ?_)
    obtain ⟨rfl, rfl, hL⟩ := hp
    obtain ⟨hs, hF⟩ := ck_e hF
    refine x_zreturn dX7_tellOnce_14 rfl ⟨Nat.le_refl _, Nat.le_refl _⟩ hs ?_
    cases hF
    exact ⟨rfl, rfl, hL⟩
set_option maxHeartbeats 4000000 in
set_option maxRecDepth 100000 in
theorem u_X7_tellOnce (E : xE) (d : Nat) (r : Int × Hp) : ∀ n : Nat, (∀ (x1 x2 : Int) (h : Hp), Lay h → g_X7_tellOnce n 0 [x1, x2] h = some r → X E mX7_tellOnce (d + 2) (0, 0) (0, 0) 0 [some (xr 7 0), some (xi x1), some (xi x2)] [] h (PoI r)) := by
  intro n
  induction n with
  | zero => exact fun _ _ _ _ hF => no_e (r := r) hF
  | succ n ih => exact fun x1 x2 h hL hF => t_X7_tellOnce_0 E d (g_X7_tellOnce n) r  x1 x2 h hL hF
theorem c_X7_tellOnce (d : Nat) (x1 x2 : Int) (h : Hp) (r : Int × Hp) (hL : Lay h) (hF : f_X7_tellOnce x1 x2 h = some r) : Sp mX7_tellOnce (d + 2) (0, 0) [xr 7 0, xi x1, xi x2] h (PoI r) :=
  sp_of (by decide) rfl (Nat.le_of_ble_eq_true rfl) (ls := [some (xr 7 0), some (xi x1), some (xi x2)]) rfl (fun E _ => (u_X7_tellOnce E d r FU) x1 x2 h hL hF)
theorem dX8_scan_0 : decode cX8_scan 0 = .ok (.aload_n 0, 1) := by decide +kernel
theorem dX8_scan_1 : decode cX8_scan 1 = .ok (.iconst 0, 1) := by decide +kernel
theorem dX8_scan_2 : decode cX8_scan 2 = .ok (.iload_n 1, 1) := by decide +kernel
theorem dX8_scan_3 : decode cX8_scan 3 = .ok (.aload_n 0, 1) := by decide +kernel
theorem dX8_scan_4 : decode cX8_scan 4 = .ok (.getfield 40, 3) := by decide +kernel
theorem dX8_scan_7 : decode cX8_scan 7 = .ok (.arraylength, 1) := by decide +kernel
theorem dX8_scan_8 : decode cX8_scan 8 = .ok (.invokestatic 55, 3) := by decide +kernel
theorem dX8_scan_11 : decode cX8_scan 11 = .ok (.invokestatic 61, 3) := by decide +kernel
theorem dX8_scan_14 : decode cX8_scan 14 = .ok (.putfield 15, 3) := by decide +kernel
theorem dX8_scan_17 : decode cX8_scan 17 = .ok (.aload_n 0, 1) := by decide +kernel
theorem dX8_scan_18 : decode cX8_scan 18 = .ok (.iconst 0, 1) := by decide +kernel
theorem dX8_scan_19 : decode cX8_scan 19 = .ok (.putfield 19, 3) := by decide +kernel
theorem dX8_scan_22 : decode cX8_scan 22 = .ok (.aload_n 0, 1) := by decide +kernel
theorem dX8_scan_23 : decode cX8_scan 23 = .ok (.iconst 0, 1) := by decide +kernel
theorem dX8_scan_24 : decode cX8_scan 24 = .ok (.putfield 37, 3) := by decide +kernel
theorem dX8_scan_27 : decode cX8_scan 27 = .ok (.aload_n 0, 1) := by decide +kernel
theorem dX8_scan_28 : decode cX8_scan 28 = .ok (.iconst 5, 1) := by decide +kernel
theorem dX8_scan_29 : decode cX8_scan 29 = .ok (.putfield 22, 3) := by decide +kernel
theorem dX8_scan_32 : decode cX8_scan 32 = .ok (.aload_n 0, 1) := by decide +kernel
theorem dX8_scan_33 : decode cX8_scan 33 = .ok (.getfield 37, 3) := by decide +kernel
theorem dX8_scan_36 : decode cX8_scan 36 = .ok (.sipush 800, 3) := by decide +kernel
theorem dX8_scan_39 : decode cX8_scan 39 = .ok (.if_icmp .gt 195, 3) := by decide +kernel
theorem dX8_scan_42 : decode cX8_scan 42 = .ok (.aload_n 0, 1) := by decide +kernel
theorem dX8_scan_43 : decode cX8_scan 43 = .ok (.getfield 22, 3) := by decide +kernel
theorem dX8_scan_46 : decode cX8_scan 46 = .ok (.ifCond .eq 188, 3) := by decide +kernel
theorem dX8_scan_49 : decode cX8_scan 49 = .ok (.aload_n 0, 1) := by decide +kernel
theorem dX8_scan_50 : decode cX8_scan 50 = .ok (.getfield 19, 3) := by decide +kernel
theorem dX8_scan_53 : decode cX8_scan 53 = .ok (.aload_n 0, 1) := by decide +kernel
theorem dX8_scan_54 : decode cX8_scan 54 = .ok (.getfield 15, 3) := by decide +kernel
theorem dX8_scan_57 : decode cX8_scan 57 = .ok (.if_icmp .ge 44, 3) := by decide +kernel
theorem dX8_scan_60 : decode cX8_scan 60 = .ok (.aload_n 0, 1) := by decide +kernel
theorem dX8_scan_61 : decode cX8_scan 61 = .ok (.getfield 40, 3) := by decide +kernel
theorem dX8_scan_64 : decode cX8_scan 64 = .ok (.aload_n 0, 1) := by decide +kernel
theorem dX8_scan_65 : decode cX8_scan 65 = .ok (.getfield 19, 3) := by decide +kernel
theorem dX8_scan_68 : decode cX8_scan 68 = .ok (.baload, 1) := by decide +kernel
theorem dX8_scan_69 : decode cX8_scan 69 = .ok (.bipush 32, 2) := by decide +kernel
theorem dX8_scan_71 : decode cX8_scan 71 = .ok (.if_icmp .eq 17, 3) := by decide +kernel
theorem dX8_scan_74 : decode cX8_scan 74 = .ok (.aload_n 0, 1) := by decide +kernel
theorem dX8_scan_75 : decode cX8_scan 75 = .ok (.getfield 40, 3) := by decide +kernel
theorem dX8_scan_78 : decode cX8_scan 78 = .ok (.aload_n 0, 1) := by decide +kernel
theorem dX8_scan_79 : decode cX8_scan 79 = .ok (.getfield 19, 3) := by decide +kernel
theorem dX8_scan_82 : decode cX8_scan 82 = .ok (.baload, 1) := by decide +kernel
theorem dX8_scan_83 : decode cX8_scan 83 = .ok (.bipush 10, 2) := by decide +kernel
theorem dX8_scan_85 : decode cX8_scan 85 = .ok (.if_icmp .ne 16, 3) := by decide +kernel
theorem dX8_scan_88 : decode cX8_scan 88 = .ok (.aload_n 0, 1) := by decide +kernel
theorem dX8_scan_89 : decode cX8_scan 89 = .ok (.dup, 1) := by decide +kernel
theorem dX8_scan_90 : decode cX8_scan 90 = .ok (.getfield 19, 3) := by decide +kernel
theorem dX8_scan_93 : decode cX8_scan 93 = .ok (.iconst 1, 1) := by decide +kernel
theorem dX8_scan_94 : decode cX8_scan 94 = .ok (.iadd, 1) := by decide +kernel
theorem dX8_scan_95 : decode cX8_scan 95 = .ok (.putfield 19, 3) := by decide +kernel
theorem dX8_scan_98 : decode cX8_scan 98 = .ok (.goto (-49), 3) := by decide +kernel
theorem dX8_scan_101 : decode cX8_scan 101 = .ok (.aload_n 0, 1) := by decide +kernel
theorem dX8_scan_102 : decode cX8_scan 102 = .ok (.getfield 34, 3) := by decide +kernel
theorem dX8_scan_105 : decode cX8_scan 105 = .ok (.aload_n 0, 1) := by decide +kernel
theorem dX8_scan_106 : decode cX8_scan 106 = .ok (.getfield 37, 3) := by decide +kernel
theorem dX8_scan_109 : decode cX8_scan 109 = .ok (.aload_n 0, 1) := by decide +kernel
theorem dX8_scan_110 : decode cX8_scan 110 = .ok (.getfield 19, 3) := by decide +kernel
theorem dX8_scan_113 : decode cX8_scan 113 = .ok (.iastore, 1) := by decide +kernel
theorem dX8_scan_114 : decode cX8_scan 114 = .ok (.aload_n 0, 1) := by decide +kernel
theorem dX8_scan_115 : decode cX8_scan 115 = .ok (.iconst 0, 1) := by decide +kernel
theorem dX8_scan_116 : decode cX8_scan 116 = .ok (.putfield 25, 3) := by decide +kernel
theorem dX8_scan_119 : decode cX8_scan 119 = .ok (.aload_n 0, 1) := by decide +kernel
theorem dX8_scan_120 : decode cX8_scan 120 = .ok (.getfield 19, 3) := by decide +kernel
theorem dX8_scan_123 : decode cX8_scan 123 = .ok (.aload_n 0, 1) := by decide +kernel
theorem dX8_scan_124 : decode cX8_scan 124 = .ok (.getfield 15, 3) := by decide +kernel
theorem dX8_scan_127 : decode cX8_scan 127 = .ok (.if_icmp .lt 11, 3) := by decide +kernel
theorem dX8_scan_130 : decode cX8_scan 130 = .ok (.aload_n 0, 1) := by decide +kernel
theorem dX8_scan_131 : decode cX8_scan 131 = .ok (.iconst 0, 1) := by decide +kernel
theorem dX8_scan_132 : decode cX8_scan 132 = .ok (.putfield 22, 3) := by decide +kernel
theorem dX8_scan_135 : decode cX8_scan 135 = .ok (.goto 60, 3) := by decide +kernel
theorem dX8_scan_138 : decode cX8_scan 138 = .ok (.aload_n 0, 1) := by decide +kernel
theorem dX8_scan_139 : decode cX8_scan 139 = .ok (.getfield 40, 3) := by decide +kernel
theorem dX8_scan_142 : decode cX8_scan 142 = .ok (.aload_n 0, 1) := by decide +kernel
theorem dX8_scan_143 : decode cX8_scan 143 = .ok (.getfield 19, 3) := by decide +kernel
theorem dX8_scan_146 : decode cX8_scan 146 = .ok (.baload, 1) := by decide +kernel
theorem dX8_scan_147 : decode cX8_scan 147 = .ok (.invokestatic 64, 3) := by decide +kernel
theorem dX8_scan_150 : decode cX8_scan 150 = .ok (.ifCond .eq 10, 3) := by decide +kernel
theorem dX8_scan_153 : decode cX8_scan 153 = .ok (.aload_n 0, 1) := by decide +kernel
theorem dX8_scan_154 : decode cX8_scan 154 = .ok (.invokevirtual 68, 3) := by decide +kernel
theorem dX8_scan_157 : decode cX8_scan 157 = .ok (.goto 38, 3) := by decide +kernel
theorem dX8_scan_160 : decode cX8_scan 160 = .ok (.aload_n 0, 1) := by decide +kernel
theorem dX8_scan_161 : decode cX8_scan 161 = .ok (.getfield 40, 3) := by decide +kernel
theorem dX8_scan_164 : decode cX8_scan 164 = .ok (.aload_n 0, 1) := by decide +kernel
theorem dX8_scan_165 : decode cX8_scan 165 = .ok (.getfield 19, 3) := by decide +kernel
theorem dX8_scan_168 : decode cX8_scan 168 = .ok (.baload, 1) := by decide +kernel
theorem dX8_scan_169 : decode cX8_scan 169 = .ok (.invokestatic 71, 3) := by decide +kernel
theorem dX8_scan_172 : decode cX8_scan 172 = .ok (.ifCond .eq 10, 3) := by decide +kernel
theorem dX8_scan_175 : decode cX8_scan 175 = .ok (.aload_n 0, 1) := by decide +kernel
theorem dX8_scan_176 : decode cX8_scan 176 = .ok (.invokevirtual 74, 3) := by decide +kernel
theorem dX8_scan_179 : decode cX8_scan 179 = .ok (.goto 16, 3) := by decide +kernel
theorem dX8_scan_182 : decode cX8_scan 182 = .ok (.aload_n 0, 1) := by decide +kernel
theorem dX8_scan_183 : decode cX8_scan 183 = .ok (.aload_n 0, 1) := by decide +kernel
theorem dX8_scan_184 : decode cX8_scan 184 = .ok (.getfield 40, 3) := by decide +kernel
theorem dX8_scan_187 : decode cX8_scan 187 = .ok (.aload_n 0, 1) := by decide +kernel
theorem dX8_scan_188 : decode cX8_scan 188 = .ok (.getfield 19, 3) := by decide +kernel
theorem dX8_scan_191 : decode cX8_scan 191 = .ok (.baload, 1) := by decide +kernel
theorem dX8_scan_192 : decode cX8_scan 192 = .ok (.invokevirtual 77, 3) := by decide +kernel
theorem dX8_scan_195 : decode cX8_scan 195 = .ok (.aload_n 0, 1) := by decide +kernel
theorem dX8_scan_196 : decode cX8_scan 196 = .ok (.getfield 28, 3) := by decide +kernel
theorem dX8_scan_199 : decode cX8_scan 199 = .ok (.aload_n 0, 1) := by decide +kernel
theorem dX8_scan_200 : decode cX8_scan 200 = .ok (.getfield 37, 3) := by decide +kernel
theorem dX8_scan_203 : decode cX8_scan 203 = .ok (.aload_n 0, 1) := by decide +kernel
theorem dX8_scan_204 : decode cX8_scan 204 = .ok (.getfield 22, 3) := by decide +kernel
theorem dX8_scan_207 : decode cX8_scan 207 = .ok (.iastore, 1) := by decide +kernel
theorem dX8_scan_208 : decode cX8_scan 208 = .ok (.aload_n 0, 1) := by decide +kernel
theorem dX8_scan_209 : decode cX8_scan 209 = .ok (.getfield 31, 3) := by decide +kernel
theorem dX8_scan_212 : decode cX8_scan 212 = .ok (.aload_n 0, 1) := by decide +kernel
theorem dX8_scan_213 : decode cX8_scan 213 = .ok (.getfield 37, 3) := by decide +kernel
theorem dX8_scan_216 : decode cX8_scan 216 = .ok (.aload_n 0, 1) := by decide +kernel
theorem dX8_scan_217 : decode cX8_scan 217 = .ok (.getfield 25, 3) := by decide +kernel
theorem dX8_scan_220 : decode cX8_scan 220 = .ok (.iastore, 1) := by decide +kernel
theorem dX8_scan_221 : decode cX8_scan 221 = .ok (.aload_n 0, 1) := by decide +kernel
theorem dX8_scan_222 : decode cX8_scan 222 = .ok (.dup, 1) := by decide +kernel
theorem dX8_scan_223 : decode cX8_scan 223 = .ok (.getfield 37, 3) := by decide +kernel
theorem dX8_scan_226 : decode cX8_scan 226 = .ok (.iconst 1, 1) := by decide +kernel
theorem dX8_scan_227 : decode cX8_scan 227 = .ok (.iadd, 1) := by decide +kernel
theorem dX8_scan_228 : decode cX8_scan 228 = .ok (.putfield 37, 3) := by decide +kernel
theorem dX8_scan_231 : decode cX8_scan 231 = .ok (.goto (-199), 3) := by decide +kernel
theorem dX8_scan_234 : decode cX8_scan 234 = .ok (.return_, 1) := by decide +kernel
noncomputable def b_X8_scan_0 (rec : Rk) (x1 : Int) (h : Hp) : Option (Int × Hp) :=
  lt (sI h 8 0 2 (max 0 (min x1 800))) fun h1 =>
  lt (sI h1 8 0 3 0) fun h2 =>
  lt (sI h2 8 0 9 0) fun h3 =>
  lt (sI h3 8 0 4 5) fun h4 =>
  rec 1 [] h4
noncomputable def b_X8_scan_1 (rec : Rk) (h : Hp) : Option (Int × Hp) :=
  if 800 < (gI h 8 0 9) then (
    some (0, h)
  ) else (
    if (gI h 8 0 4) = 0 then (
      some (0, h)
    ) else (
      rec 2 [] h
    )
  )
noncomputable def b_X8_scan_2 (rec : Rk) (h : Hp) : Option (Int × Hp) :=
  if (gI h 8 0 2) ≤ (gI h 8 0 3) then (
    rec 4 [] h
  ) else (
    ck (0 ≤ (gI h 8 0 3) ∧ (gI h 8 0 3) < 800) <|
    if (gI h 58 0 (gI h 8 0 3)) = 32 then (
      rec 3 [] h
    ) else (
      ck (0 ≤ (gI h 8 0 3) ∧ (gI h 8 0 3) < 800) <|
      if (gI h 58 0 (gI h 8 0 3)) = 10 then (
        rec 3 [] h
      ) else (
        rec 4 [] h
      )
    )
  )
noncomputable def b_X8_scan_3 (rec : Rk) (h : Hp) : Option (Int × Hp) :=
  ck (-2147483648 ≤ (gI h 8 0 3) + 1 ∧ (gI h 8 0 3) + 1 < 2147483648) <|
  lt (sI h 8 0 3 ((gI h 8 0 3) + 1)) fun h1 =>
  rec 2 [] h1
noncomputable def b_X8_scan_4 (rec : Rk) (h : Hp) : Option (Int × Hp) :=
  ck (0 ≤ (gI h 8 0 9) ∧ (gI h 8 0 9) < 801) <|
  lt (sI h 50 0 (gI h 8 0 9) (gI h 8 0 3)) fun h1 =>
  lt (sI h1 8 0 5 0) fun h2 =>
  if (gI h2 8 0 3) < (gI h2 8 0 2) then (
    ck (0 ≤ (gI h2 8 0 3) ∧ (gI h2 8 0 3) < 800) <|
    bd (f_X8_isLetter (gI h2 58 0 (gI h2 8 0 3)) h2) fun v3 h4 =>
    if v3 = 0 then (
      ck (0 ≤ (gI h4 8 0 3) ∧ (gI h4 8 0 3) < 800) <|
      bd (f_X8_isDigit (gI h4 58 0 (gI h4 8 0 3)) h4) fun v5 h6 =>
      if v5 = 0 then (
        ck (0 ≤ (gI h6 8 0 3) ∧ (gI h6 8 0 3) < 800) <|
        bd (f_X8_scanSign (gI h6 58 0 (gI h6 8 0 3)) h6) fun v7 h8 =>
        rec 5 [] h8
      ) else (
        bd (f_X8_scanNumber h6) fun v9 h10 =>
        rec 5 [] h10
      )
    ) else (
      bd (f_X8_scanWord h4) fun v11 h12 =>
      rec 5 [] h12
    )
  ) else (
    lt (sI h2 8 0 4 0) fun h13 =>
    rec 5 [] h13
  )
noncomputable def b_X8_scan_5 (rec : Rk) (h : Hp) : Option (Int × Hp) :=
  ck (0 ≤ (gI h 8 0 9) ∧ (gI h 8 0 9) < 801) <|
  lt (sI h 48 0 (gI h 8 0 9) (gI h 8 0 4)) fun h1 =>
  ck (0 ≤ (gI h1 8 0 9) ∧ (gI h1 8 0 9) < 801) <|
  lt (sI h1 49 0 (gI h1 8 0 9) (gI h1 8 0 5)) fun h2 =>
  ck (-2147483648 ≤ (gI h2 8 0 9) + 1 ∧ (gI h2 8 0 9) + 1 < 2147483648) <|
  lt (sI h2 8 0 9 ((gI h2 8 0 9) + 1)) fun h3 =>
  rec 1 [] h3
noncomputable def g_X8_scan (n : Nat) : Rk := Nat.rec (motive := fun _ => Rk) (fun _ _ _ => none) (fun _ rec k l h => if k = 0 then b_X8_scan_0 rec (l.getD 0 0) h else if k = 1 then b_X8_scan_1 rec  h else if k = 2 then b_X8_scan_2 rec  h else if k = 3 then b_X8_scan_3 rec  h else if k = 4 then b_X8_scan_4 rec  h else if k = 5 then b_X8_scan_5 rec  h else none) n
noncomputable def f_X8_scan (x1 : Int) (h : Hp) : Option (Int × Hp) := g_X8_scan FU 0 [x1] h
set_option maxHeartbeats 4000000 in
set_option maxRecDepth 100000 in
theorem t_X8_scan_0 (E : xE) (d : Nat) (rec : Rk) (r : Int × Hp) (hr_32 : ∀ (h : Hp), Lay h → rec 1 [] h = some r → X E mX8_scan (d + 3) (0, 0) (0, 0) 32 [some (xr 8 0), none] [] h (PoV r)) (x1 : Int) (h : Hp) (hL : Lay h) (hF : b_X8_scan_0 rec x1 h = some r) : X E mX8_scan (d + 3) (0, 0) (0, 0) 0 [some (xr 8 0), some (xi x1)] [] h (PoV r) := by
  unfold b_X8_scan_0 at hF
  refine x_aload_n (i := 0) (b := 1) dX8_scan_0 rfl rfl rfl ?_
  refine x_iconst (n := 0) (b := 2) dX8_scan_1 (by decide) rfl ?_
  refine x_iload_n (i := 1) (b := 3) dX8_scan_2 rfl rfl rfl ?_
  refine x_aload_n (i := 0) (b := 4) dX8_scan_3 rfl rfl rfl ?_
  refine x_getL (j := 0) (t := (58, 0, false)) (b := 7) fk_X8_40 dX8_scan_4 rfl hL rfl rfl rfl ?_
  refine x_alen (kind := 1) (ct := 1) (b := 8) ak_58 (by decide) dX8_scan_7 rfl ?_
  refine x_eq (y := 800) rfl ?_
  refine x_min (b := 11) dX8_scan_8 mw_X8_55 (Nat.le_of_ble_eq_true rfl) ⟨Nat.le_refl _, Nat.le_refl _⟩ rfl ?_
  refine x_max (b := 14) dX8_scan_11 mw_X8_61 (Nat.le_of_ble_eq_true rfl) ⟨Nat.le_refl _, Nat.le_refl _⟩ rfl ?_
  refine x_putI (b := 17) fk_X8_15 dX8_scan_14 rfl rfl 2 rfl ?_
  obtain ⟨h1, e_h1, hF⟩ := lt_e hF
  refine x_hp (h2 := h1) e_h1 ?_
  replace hL : Lay h1 := by rw [← e_h1]; exact hL
  refine x_aload_n (i := 0) (b := 18) dX8_scan_17 rfl rfl rfl ?_
  refine x_iconst (n := 0) (b := 19) dX8_scan_18 (by decide) rfl ?_
  refine x_putI (b := 22) fk_X8_19 dX8_scan_19 rfl rfl 3 rfl ?_
  obtain ⟨h2, e_h2, hF⟩ := lt_e hF
  refine x_hp (h2 := h2) e_h2 ?_
  replace hL : Lay h2 := by rw [← e_h2]; exact hL
  refine x_aload_n (i := 0) (b := 23) dX8_scan_22 rfl rfl rfl ?_
  refine x_iconst (n := 0) (b := 24) dX8_scan_23 (by decide) rfl ?_
  refine x_putI (b := 27) fk_X8_37 dX8_scan_24 rfl rfl 9 rfl ?_
  obtain ⟨h3, e_h3, hF⟩ := lt_e hF
  refine x_hp (h2 := h3) e_h3 ?_
  replace hL : Lay h3 := by rw [← e_h3]; exact hL
  refine x_aload_n (i := 0) (b := 28) dX8_scan_27 rfl rfl rfl ?_
  refine x_iconst (n := 5) (b := 29) dX8_scan_28 (by decide) rfl ?_
  refine x_putI (b := 32) fk_X8_22 dX8_scan_29 rfl rfl 4 rfl ?_
  obtain ⟨h4, e_h4, hF⟩ := lt_e hF
  refine x_hp (h2 := h4) e_h4 ?_
  replace hL : Lay h4 := by rw [← e_h4]; exact hL
  exact x_dp (ls2 := [some (xr 8 0), none]) ⟨rfl, trivial⟩ (hr_32  h4 hL hF)
set_option maxHeartbeats 4000000 in
set_option maxRecDepth 100000 in
theorem t_X8_scan_1 (E : xE) (d : Nat) (rec : Rk) (r : Int × Hp) (hr_49 : ∀ (h : Hp), Lay h → rec 2 [] h = some r → X E mX8_scan (d + 3) (0, 0) (0, 0) 49 [some (xr 8 0), none] [] h (PoV r)) (h : Hp) (hL : Lay h) (hF : b_X8_scan_1 rec  h = some r) : X E mX8_scan (d + 3) (0, 0) (0, 0) 32 [some (xr 8 0), none] [] h (PoV r) := by
  unfold b_X8_scan_1 at hF
  refine x_aload_n (i := 0) (b := 33) dX8_scan_32 rfl rfl rfl ?_
  refine x_getI (v := gI h 8 0 9) (b := 36) fk_X8_37 dX8_scan_33 (by decide) rfl rfl ?_
  refine x_sipush (n := 800) (b := 39) dX8_scan_36 (by decide) rfl ?_
  refine x_icmp_gt (tgt := 234) (b := 42) dX8_scan_39 (by decide) rfl (fun hc => ?_) (fun hc => ?_)
  · replace hF := br_T hc hF
    refine x_return dX8_scan_234 rfl ⟨Nat.le_refl _, Nat.le_refl _⟩ ?_
    cases hF
    exact ⟨rfl, rfl, hL⟩
  · replace hF := br_F hc hF
    refine x_aload_n (i := 0) (b := 43) dX8_scan_42 rfl rfl rfl ?_
    refine x_getI (v := gI h 8 0 4) (b := 46) fk_X8_22 dX8_scan_43 (by decide) rfl rfl ?_
    refine x_if_eq (tgt := 234) (b := 49) dX8_scan_46 (by decide) rfl (fun hc => ?_) (fun hc => ?_)
    · replace hF := br_T hc hF
      refine x_return dX8_scan_234 rfl ⟨Nat.le_refl _, Nat.le_refl _⟩ ?_
      cases hF
      exact ⟨rfl, rfl, hL⟩
    · replace hF := br_F hc hF
      exact x_dp (ls2 := [some (xr 8 0), none]) ⟨rfl, trivial⟩ (hr_49  h hL hF)
set_option maxHeartbeats 4000000 in
set_option maxRecDepth 100000 in
theorem t_X8_scan_2 (E : xE) (d : Nat) (rec : Rk) (r : Int × Hp) (hr_88 : ∀ (h : Hp), Lay h → rec 3 [] h = some r → X E mX8_scan (d + 3) (0, 0) (0, 0) 88 [some (xr 8 0), none] [] h (PoV r)) (hr_101 : ∀ (h : Hp), Lay h → rec 4 [] h = some r → X E mX8_scan (d + 3) (0, 0) (0, 0) 101 [some (xr 8 0), none] [] h (PoV r)) (h : Hp) (hL : Lay h) (hF : b_X8_scan_2 rec  h = some r) : X E mX8_scan (d + 3) (0, 0) (0, 0) 49 [some (xr 8 0), none] [] h (PoV r) := by
  unfold b_X8_scan_2 at hF
  refine x_aload_n (i := 0) (b := 50) dX8_scan_49 rfl rfl rfl ?_
  refine x_getI (v := gI h 8 0 3) (b := 53) fk_X8_19 dX8_scan_50 (by decide) rfl rfl ?_
  refine x_aload_n (i := 0) (b := 54) dX8_scan_53 rfl rfl rfl ?_
  refine x_getI (v := gI h 8 0 2) (b := 57) fk_X8_15 dX8_scan_54 (by decide) rfl rfl ?_
  refine x_icmp_ge (tgt := 101) (b := 60) dX8_scan_57 (by decide) rfl (fun hc => ?_) (fun hc => ?_)
  · replace hF := br_T hc hF
    exact x_dp (ls2 := [some (xr 8 0), none]) ⟨rfl, trivial⟩ (hr_101  h hL hF)
  · replace hF := br_F hc hF
    refine x_aload_n (i := 0) (b := 61) dX8_scan_60 rfl rfl rfl ?_
    refine x_getL (j := 0) (t := (58, 0, false)) (b := 64) fk_X8_40 dX8_scan_61 rfl hL rfl rfl rfl ?_
    refine x_aload_n (i := 0) (b := 65) dX8_scan_64 rfl rfl rfl ?_
    refine x_getI (v := gI h 8 0 3) (b := 68) fk_X8_19 dX8_scan_65 (by decide) rfl rfl ?_
    obtain ⟨hs, hF⟩ := ck_e hF
    refine x_bald (v := gI h 58 0 (gI h 8 0 3)) (b := 69) ak_58 dX8_scan_68 hs rfl rfl ?_
    refine x_bipush (n := 32) (b := 71) dX8_scan_69 (by decide) rfl ?_
    refine x_icmp_eq (tgt := 88) (b := 74) dX8_scan_71 (by decide) rfl (fun hc => ?_) (fun hc => ?_)
    · replace hF := br_T hc hF
      exact x_dp (ls2 := [some (xr 8 0), none]) ⟨rfl, trivial⟩ (hr_88  h hL hF)
    · replace hF := br_F hc hF
      refine x_aload_n (i := 0) (b := 75) dX8_scan_74 rfl rfl rfl ?_
      refine x_getL (j := 0) (t := (58, 0, false)) (b := 78) fk_X8_40 dX8_scan_75 rfl hL rfl rfl rfl ?_
      refine x_aload_n (i := 0) (b := 79) dX8_scan_78 rfl rfl rfl ?_
      refine x_getI (v := gI h 8 0 3) (b := 82) fk_X8_19 dX8_scan_79 (by decide) rfl rfl ?_
      obtain ⟨hs, hF⟩ := ck_e hF
      refine x_bald (v := gI h 58 0 (gI h 8 0 3)) (b := 83) ak_58 dX8_scan_82 hs rfl rfl ?_
      refine x_bipush (n := 10) (b := 85) dX8_scan_83 (by decide) rfl ?_
      refine x_icmp_ne (tgt := 101) (b := 88) dX8_scan_85 (by decide) rfl (fun hc => ?_) (fun hc => ?_)
      · replace hF := br_F hc hF
        exact x_dp (ls2 := [some (xr 8 0), none]) ⟨rfl, trivial⟩ (hr_101  h hL hF)
      · replace hF := br_T hc hF
        exact x_dp (ls2 := [some (xr 8 0), none]) ⟨rfl, trivial⟩ (hr_88  h hL hF)
set_option maxHeartbeats 4000000 in
set_option maxRecDepth 100000 in
theorem t_X8_scan_3 (E : xE) (d : Nat) (rec : Rk) (r : Int × Hp) (hr_49 : ∀ (h : Hp), Lay h → rec 2 [] h = some r → X E mX8_scan (d + 3) (0, 0) (0, 0) 49 [some (xr 8 0), none] [] h (PoV r)) (h : Hp) (hL : Lay h) (hF : b_X8_scan_3 rec  h = some r) : X E mX8_scan (d + 3) (0, 0) (0, 0) 88 [some (xr 8 0), none] [] h (PoV r) := by
  unfold b_X8_scan_3 at hF
  refine x_aload_n (i := 0) (b := 89) dX8_scan_88 rfl rfl rfl ?_
  refine x_dup (b := 90) dX8_scan_89 rfl rfl ?_
  refine x_getI (v := gI h 8 0 3) (b := 93) fk_X8_19 dX8_scan_90 (by decide) rfl rfl ?_
  refine x_iconst (n := 1) (b := 94) dX8_scan_93 (by decide) rfl ?_
  obtain ⟨hs, hF⟩ := ck_e hF
  refine x_iadd (b := 95) dX8_scan_94 hs rfl ?_
  refine x_putI (b := 98) fk_X8_19 dX8_scan_95 rfl rfl 3 rfl ?_
  obtain ⟨h1, e_h1, hF⟩ := lt_e hF
  refine x_hp (h2 := h1) e_h1 ?_
  replace hL : Lay h1 := by rw [← e_h1]; exact hL
  refine x_goto (tgt := 49) dX8_scan_98 (by decide) ?_
  exact x_dp (ls2 := [some (xr 8 0), none]) ⟨rfl, trivial⟩ (hr_49  h1 hL hF)
set_option maxHeartbeats 4000000 in
set_option maxRecDepth 100000 in
theorem t_X8_scan_4 (E : xE) (d : Nat) (rec : Rk) (r : Int × Hp) (hr_195 : ∀ (h : Hp), Lay h → rec 5 [] h = some r → X E mX8_scan (d + 3) (0, 0) (0, 0) 195 [some (xr 8 0), none] [] h (PoV r)) (h : Hp) (hL : Lay h) (hF : b_X8_scan_4 rec  h = some r) : X E mX8_scan (d + 3) (0, 0) (0, 0) 101 [some (xr 8 0), none] [] h (PoV r) := by
  unfold b_X8_scan_4 at hF
  refine x_aload_n (i := 0) (b := 102) dX8_scan_101 rfl rfl rfl ?_
  refine x_getL (j := 0) (t := (50, 0, true)) (b := 105) fk_X8_34 dX8_scan_102 rfl hL rfl rfl rfl ?_
  refine x_aload_n (i := 0) (b := 106) dX8_scan_105 rfl rfl rfl ?_
  refine x_getI (v := gI h 8 0 9) (b := 109) fk_X8_37 dX8_scan_106 (by decide) rfl rfl ?_
  refine x_aload_n (i := 0) (b := 110) dX8_scan_109 rfl rfl rfl ?_
  refine x_getI (v := gI h 8 0 3) (b := 113) fk_X8_19 dX8_scan_110 (by decide) rfl rfl ?_
  obtain ⟨hs, hF⟩ := ck_e hF
  have hs1 := hs
  refine x_iast (b := 114) ak_50 dX8_scan_113 hs1 rfl ?_
  obtain ⟨h1, e_h1, hF⟩ := lt_e hF
  refine x_hp (h2 := h1) e_h1 ?_
  replace hL : Lay h1 := by rw [← e_h1]; exact hL
  refine x_aload_n (i := 0) (b := 115) dX8_scan_114 rfl rfl rfl ?_
  refine x_iconst (n := 0) (b := 116) dX8_scan_115 (by decide) rfl ?_
  refine x_putI (b := 119) fk_X8_25 dX8_scan_116 rfl rfl 5 rfl ?_
  obtain ⟨h2, e_h2, hF⟩ := lt_e hF
  refine x_hp (h2 := h2) e_h2 ?_
  replace hL : Lay h2 := by rw [← e_h2]; exact hL
  refine x_aload_n (i := 0) (b := 120) dX8_scan_119 rfl rfl rfl ?_
  refine x_getI (v := gI h2 8 0 3) (b := 123) fk_X8_19 dX8_scan_120 (by decide) rfl rfl ?_
  refine x_aload_n (i := 0) (b := 124) dX8_scan_123 rfl rfl rfl ?_
  refine x_getI (v := gI h2 8 0 2) (b := 127) fk_X8_15 dX8_scan_124 (by decide) rfl rfl ?_
  refine x_icmp_lt (tgt := 138) (b := 130) dX8_scan_127 (by decide) rfl (fun hc => ?_) (fun hc => ?_)
  · replace hF := br_T hc hF
    refine x_aload_n (i := 0) (b := 139) dX8_scan_138 rfl rfl rfl ?_
    refine x_getL (j := 0) (t := (58, 0, false)) (b := 142) fk_X8_40 dX8_scan_139 rfl hL rfl rfl rfl ?_
    refine x_aload_n (i := 0) (b := 143) dX8_scan_142 rfl rfl rfl ?_
    refine x_getI (v := gI h2 8 0 3) (b := 146) fk_X8_19 dX8_scan_143 (by decide) rfl rfl ?_
    obtain ⟨hs, hF⟩ := ck_e hF
    refine x_bald (v := gI h2 58 0 (gI h2 8 0 3)) (b := 147) ak_58 dX8_scan_146 hs rfl rfl ?_
    obtain ⟨v3, h4, hq, hF⟩ := bd_e hF
    refine x_callS (as := [xi (gI h2 58 0 (gI h2 8 0 3))]) (rest := []) (b := 150) (c_X8_isLetter (d + 1) (gI h2 58 0 (gI h2 8 0 3)) h2 _ hL hq) dX8_scan_147 cw_X8_64 rfl rfl (Nat.le_of_ble_eq_true rfl) ⟨Nat.le_refl _, Nat.le_refl _⟩ rfl (fun rv hh hp _ => ?_)
    obtain ⟨rfl, rfl, hL⟩ := hp
    refine x_if_eq (tgt := 160) (b := 153) dX8_scan_150 (by decide) rfl (fun hc => ?_) (fun hc => ?_)
    · replace hF := br_T hc hF
      refine x_aload_n (i := 0) (b := 161) dX8_scan_160 rfl rfl rfl ?_
      refine x_getL (j := 0) (t := (58, 0, false)) (b := 164) fk_X8_40 dX8_scan_161 rfl hL rfl rfl rfl ?_
      refine x_aload_n (i := 0) (b := 165) dX8_scan_164 rfl rfl rfl ?_
      refine x_getI (v := gI h4 8 0 3) (b := 168) fk_X8_19 dX8_scan_165 (by decide) rfl rfl ?_
      obtain ⟨hs, hF⟩ := ck_e hF
      refine x_bald (v := gI h4 58 0 (gI h4 8 0 3)) (b := 169) ak_58 dX8_scan_168 hs rfl rfl ?_
      obtain ⟨v5, h6, hq, hF⟩ := bd_e hF
      refine x_callS (as := [xi (gI h4 58 0 (gI h4 8 0 3))]) (rest := []) (b := 172) (c_X8_isDigit (d + 1) (gI h4 58 0 (gI h4 8 0 3)) h4 _ hL hq) dX8_scan_169 cw_X8_71 rfl rfl (Nat.le_of_ble_eq_true rfl) ⟨Nat.le_refl _, Nat.le_refl _⟩ rfl (fun rv hh hp _ => ?_)
      obtain ⟨rfl, rfl, hL⟩ := hp
      refine x_if_eq (tgt := 182) (b := 175) dX8_scan_172 (by decide) rfl (fun hc => ?_) (fun hc => ?_)
      · replace hF := br_T hc hF
        refine x_aload_n (i := 0) (b := 183) dX8_scan_182 rfl rfl rfl ?_
        refine x_aload_n (i := 0) (b := 184) dX8_scan_183 rfl rfl rfl ?_
        refine x_getL (j := 0) (t := (58, 0, false)) (b := 187) fk_X8_40 dX8_scan_184 rfl hL rfl rfl rfl ?_
        refine x_aload_n (i := 0) (b := 188) dX8_scan_187 rfl rfl rfl ?_
        refine x_getI (v := gI h6 8 0 3) (b := 191) fk_X8_19 dX8_scan_188 (by decide) rfl rfl ?_
        obtain ⟨hs, hF⟩ := ck_e hF
        refine x_bald (v := gI h6 58 0 (gI h6 8 0 3)) (b := 192) ak_58 dX8_scan_191 hs rfl rfl ?_
        obtain ⟨v7, h8, hq, hF⟩ := bd_e hF
        refine x_callV (as := [xi (gI h6 58 0 (gI h6 8 0 3))]) (rest := []) (b := 195) (c_X8_scanSign d (gI h6 58 0 (gI h6 8 0 3)) h6 _ hL hq) dX8_scan_192 cw_X8_77 ⟨_, _, rfl, Nat.le_of_ble_eq_true rfl⟩ rfl rfl (Nat.le_of_ble_eq_true rfl) ⟨Nat.le_refl _, Nat.le_refl _⟩ rfl (fun rv hh hp _ => ?_)
        obtain ⟨rfl, rfl, hL⟩ := hp
        exact x_dp (ls2 := [some (xr 8 0), none]) ⟨rfl, trivial⟩ (hr_195  h8 hL hF)
      · replace hF := br_F hc hF
        refine x_aload_n (i := 0) (b := 176) dX8_scan_175 rfl rfl rfl ?_
        obtain ⟨v9, h10, hq, hF⟩ := bd_e hF
        refine x_callV (as := []) (rest := []) (b := 179) (c_X8_scanNumber d h6 _ hL hq) dX8_scan_176 cw_X8_74 ⟨_, _, rfl, Nat.le_of_ble_eq_true rfl⟩ rfl rfl (Nat.le_of_ble_eq_true rfl) ⟨Nat.le_refl _, Nat.le_refl _⟩ rfl (fun rv hh hp _ => ?_)
        obtain ⟨rfl, rfl, hL⟩ := hp
        refine x_goto (tgt := 195) dX8_scan_179 (by decide) ?_
        exact x_dp (ls2 := [some (xr 8 0), none]) ⟨rfl, trivial⟩ (hr_195  h10 hL hF)
    · replace hF := br_F hc hF
      refine x_aload_n (i := 0) (b := 154) dX8_scan_153 rfl rfl rfl ?_
      obtain ⟨v11, h12, hq, hF⟩ := bd_e hF
      refine x_callV (as := []) (rest := []) (b := 157) (c_X8_scanWord d h4 _ hL hq) dX8_scan_154 cw_X8_68 ⟨_, _, rfl, Nat.le_of_ble_eq_true rfl⟩ rfl rfl (Nat.le_of_ble_eq_true rfl) ⟨Nat.le_refl _, Nat.le_refl _⟩ rfl (fun rv hh hp _ => ?_)
      obtain ⟨rfl, rfl, hL⟩ := hp
      refine x_goto (tgt := 195) dX8_scan_157 (by decide) ?_
      exact x_dp (ls2 := [some (xr 8 0), none]) ⟨rfl, trivial⟩ (hr_195  h12 hL hF)
  · replace hF := br_F hc hF
    refine x_aload_n (i := 0) (b := 131) dX8_scan_130 rfl rfl rfl ?_
    refine x_iconst (n := 0) (b := 132) dX8_scan_131 (by decide) rfl ?_
    refine x_putI (b := 135) fk_X8_22 dX8_scan_132 rfl rfl 4 rfl ?_
    obtain ⟨h13, e_h13, hF⟩ := lt_e hF
    refine x_hp (h2 := h13) e_h13 ?_
    replace hL : Lay h13 := by rw [← e_h13]; exact hL
    refine x_goto (tgt := 195) dX8_scan_135 (by decide) ?_
    exact x_dp (ls2 := [some (xr 8 0), none]) ⟨rfl, trivial⟩ (hr_195  h13 hL hF)
set_option maxHeartbeats 4000000 in
set_option maxRecDepth 100000 in
theorem t_X8_scan_5 (E : xE) (d : Nat) (rec : Rk) (r : Int × Hp) (hr_32 : ∀ (h : Hp), Lay h → rec 1 [] h = some r → X E mX8_scan (d + 3) (0, 0) (0, 0) 32 [some (xr 8 0), none] [] h (PoV r)) (h : Hp) (hL : Lay h) (hF : b_X8_scan_5 rec  h = some r) : X E mX8_scan (d + 3) (0, 0) (0, 0) 195 [some (xr 8 0), none] [] h (PoV r) := by
  unfold b_X8_scan_5 at hF
  refine x_aload_n (i := 0) (b := 196) dX8_scan_195 rfl rfl rfl ?_
  refine x_getL (j := 0) (t := (48, 0, true)) (b := 199) fk_X8_28 dX8_scan_196 rfl hL rfl rfl rfl ?_
  refine x_aload_n (i := 0) (b := 200) dX8_scan_199 rfl rfl rfl ?_
  refine x_getI (v := gI h 8 0 9) (b := 203) fk_X8_37 dX8_scan_200 (by decide) rfl rfl ?_
  refine x_aload_n (i := 0) (b := 204) dX8_scan_203 rfl rfl rfl ?_
  refine x_getI (v := gI h 8 0 4) (b := 207) fk_X8_22 dX8_scan_204 (by decide) rfl rfl ?_
  obtain ⟨hs, hF⟩ := ck_e hF
  have hs1 := hs
  refine x_iast (b := 208) ak_48 dX8_scan_207 hs1 rfl ?_
  obtain ⟨h1, e_h1, hF⟩ := lt_e hF
  refine x_hp (h2 := h1) e_h1 ?_
  replace hL : Lay h1 := by rw [← e_h1]; exact hL
  refine x_aload_n (i := 0) (b := 209) dX8_scan_208 rfl rfl rfl ?_
  refine x_getL (j := 0) (t := (49, 0, true)) (b := 212) fk_X8_31 dX8_scan_209 rfl hL rfl rfl rfl ?_
  refine x_aload_n (i := 0) (b := 213) dX8_scan_212 rfl rfl rfl ?_
  refine x_getI (v := gI h1 8 0 9) (b := 216) fk_X8_37 dX8_scan_213 (by decide) rfl rfl ?_
  refine x_aload_n (i := 0) (b := 217) dX8_scan_216 rfl rfl rfl ?_
  refine x_getI (v := gI h1 8 0 5) (b := 220) fk_X8_25 dX8_scan_217 (by decide) rfl rfl ?_
  obtain ⟨hs, hF⟩ := ck_e hF
  have hs1 := hs
  refine x_iast (b := 221) ak_49 dX8_scan_220 hs1 rfl ?_
  obtain ⟨h2, e_h2, hF⟩ := lt_e hF
  refine x_hp (h2 := h2) e_h2 ?_
  replace hL : Lay h2 := by rw [← e_h2]; exact hL
  refine x_aload_n (i := 0) (b := 222) dX8_scan_221 rfl rfl rfl ?_
  refine x_dup (b := 223) dX8_scan_222 rfl rfl ?_
  refine x_getI (v := gI h2 8 0 9) (b := 226) fk_X8_37 dX8_scan_223 (by decide) rfl rfl ?_
  refine x_iconst (n := 1) (b := 227) dX8_scan_226 (by decide) rfl ?_
  obtain ⟨hs, hF⟩ := ck_e hF
  refine x_iadd (b := 228) dX8_scan_227 hs rfl ?_
  refine x_putI (b := 231) fk_X8_37 dX8_scan_228 rfl rfl 9 rfl ?_
  obtain ⟨h3, e_h3, hF⟩ := lt_e hF
  refine x_hp (h2 := h3) e_h3 ?_
  replace hL : Lay h3 := by rw [← e_h3]; exact hL
  refine x_goto (tgt := 32) dX8_scan_231 (by decide) ?_
  exact x_dp (ls2 := [some (xr 8 0), none]) ⟨rfl, trivial⟩ (hr_32  h3 hL hF)
set_option maxHeartbeats 4000000 in
set_option maxRecDepth 100000 in
theorem u_X8_scan (E : xE) (d : Nat) (r : Int × Hp) : ∀ n : Nat, (∀ (x1 : Int) (h : Hp), Lay h → g_X8_scan n 0 [x1] h = some r → X E mX8_scan (d + 3) (0, 0) (0, 0) 0 [some (xr 8 0), some (xi x1)] [] h (PoV r)) ∧ (∀ (h : Hp), Lay h → g_X8_scan n 1 [] h = some r → X E mX8_scan (d + 3) (0, 0) (0, 0) 32 [some (xr 8 0), none] [] h (PoV r)) ∧ (∀ (h : Hp), Lay h → g_X8_scan n 2 [] h = some r → X E mX8_scan (d + 3) (0, 0) (0, 0) 49 [some (xr 8 0), none] [] h (PoV r)) ∧ (∀ (h : Hp), Lay h → g_X8_scan n 3 [] h = some r → X E mX8_scan (d + 3) (0, 0) (0, 0) 88 [some (xr 8 0), none] [] h (PoV r)) ∧ (∀ (h : Hp), Lay h → g_X8_scan n 4 [] h = some r → X E mX8_scan (d + 3) (0, 0) (0, 0) 101 [some (xr 8 0), none] [] h (PoV r)) ∧ (∀ (h : Hp), Lay h → g_X8_scan n 5 [] h = some r → X E mX8_scan (d + 3) (0, 0) (0, 0) 195 [some (xr 8 0), none] [] h (PoV r)) := by
  intro n
  induction n with
  | zero => exact ⟨fun _ _ _ hF => no_e (r := r) hF, fun _ _ hF => no_e (r := r) hF, fun _ _ hF => no_e (r := r) hF, fun _ _ hF => no_e (r := r) hF, fun _ _ hF => no_e (r := r) hF, fun _ _ hF => no_e (r := r) hF⟩
  | succ n ih => exact ⟨fun x1 h hL hF => t_X8_scan_0 E d (g_X8_scan n) r ih.2.1 x1 h hL hF, fun h hL hF => t_X8_scan_1 E d (g_X8_scan n) r ih.2.2.1  h hL hF, fun h hL hF => t_X8_scan_2 E d (g_X8_scan n) r ih.2.2.2.1 ih.2.2.2.2.1  h hL hF, fun h hL hF => t_X8_scan_3 E d (g_X8_scan n) r ih.2.2.1  h hL hF, fun h hL hF => t_X8_scan_4 E d (g_X8_scan n) r ih.2.2.2.2.2  h hL hF, fun h hL hF => t_X8_scan_5 E d (g_X8_scan n) r ih.2.1  h hL hF⟩
theorem c_X8_scan (d : Nat) (x1 : Int) (h : Hp) (r : Int × Hp) (hL : Lay h) (hF : f_X8_scan x1 h = some r) : Sp mX8_scan (d + 3) (0, 0) [xr 8 0, xi x1] h (PoV r) :=
  sp_of (by decide) rfl (Nat.le_of_ble_eq_true rfl) (ls := [some (xr 8 0), some (xi x1)]) rfl (fun E _ => (u_X8_scan E d r FU).1 x1 h hL hF)
