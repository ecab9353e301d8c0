theorem dX9_spread_0 : decode cX9_spread 0 = .ok (.iload_n 2, 1) := by decide +kernel
theorem dX9_spread_1 : decode cX9_spread 1 = .ok (.bipush 64, 2) := by decide +kernel
theorem dX9_spread_3 : decode cX9_spread 3 = .ok (.imul, 1) := by decide +kernel
theorem dX9_spread_4 : decode cX9_spread 4 = .ok (.istore_n 3, 1) := by decide +kernel
theorem dX9_spread_5 : decode cX9_spread 5 = .ok (.iload_n 3, 1) := by decide +kernel
theorem dX9_spread_6 : decode cX9_spread 6 = .ok (.ifCond .lt 15, 3) := by decide +kernel
theorem dX9_spread_9 : decode cX9_spread 9 = .ok (.iload_n 3, 1) := by decide +kernel
theorem dX9_spread_10 : decode cX9_spread 10 = .ok (.bipush 64, 2) := by decide +kernel
theorem dX9_spread_12 : decode cX9_spread 12 = .ok (.iadd, 1) := by decide +kernel
theorem dX9_spread_13 : decode cX9_spread 13 = .ok (.aload_n 0, 1) := by decide +kernel
theorem dX9_spread_14 : decode cX9_spread 14 = .ok (.getfield 47, 3) := by decide +kernel
theorem dX9_spread_17 : decode cX9_spread 17 = .ok (.arraylength, 1) := by decide +kernel
theorem dX9_spread_18 : decode cX9_spread 18 = .ok (.if_icmp .le 4, 3) := by decide +kernel
theorem dX9_spread_21 : decode cX9_spread 21 = .ok (.return_, 1) := by decide +kernel
theorem dX9_spread_22 : decode cX9_spread 22 = .ok (.iconst 0, 1) := by decide +kernel
theorem dX9_spread_23 : decode cX9_spread 23 = .ok (.istore 4, 2) := by decide +kernel
theorem dX9_spread_25 : decode cX9_spread 25 = .ok (.iload 4, 2) := by decide +kernel
theorem dX9_spread_27 : decode cX9_spread 27 = .ok (.bipush 64, 2) := by decide +kernel
theorem dX9_spread_29 : decode cX9_spread 29 = .ok (.if_icmp .ge 20, 3) := by decide +kernel
theorem dX9_spread_32 : decode cX9_spread 32 = .ok (.aload_n 0, 1) := by decide +kernel
theorem dX9_spread_33 : decode cX9_spread 33 = .ok (.getfield 47, 3) := by decide +kernel
theorem dX9_spread_36 : decode cX9_spread 36 = .ok (.iload_n 3, 1) := by decide +kernel
theorem dX9_spread_37 : decode cX9_spread 37 = .ok (.iload 4, 2) := by decide +kernel
theorem dX9_spread_39 : decode cX9_spread 39 = .ok (.iadd, 1) := by decide +kernel
theorem dX9_spread_40 : decode cX9_spread 40 = .ok (.bipush 99, 2) := by decide +kernel
theorem dX9_spread_42 : decode cX9_spread 42 = .ok (.iastore, 1) := by decide +kernel
theorem dX9_spread_43 : decode cX9_spread 43 = .ok (.iinc 4 1, 3) := by decide +kernel
theorem dX9_spread_46 : decode cX9_spread 46 = .ok (.goto (-21), 3) := by decide +kernel
theorem dX9_spread_49 : decode cX9_spread 49 = .ok (.aload_n 0, 1) := by decide +kernel
theorem dX9_spread_50 : decode cX9_spread 50 = .ok (.iload_n 1, 1) := by decide +kernel
theorem dX9_spread_51 : decode cX9_spread 51 = .ok (.invokevirtual 61, 3) := by decide +kernel
theorem dX9_spread_54 : decode cX9_spread 54 = .ok (.ifCond .ne 4, 3) := by decide +kernel
theorem dX9_spread_57 : decode cX9_spread 57 = .ok (.return_, 1) := by decide +kernel
theorem dX9_spread_58 : decode cX9_spread 58 = .ok (.iconst 1, 1) := by decide +kernel
theorem dX9_spread_59 : decode cX9_spread 59 = .ok (.istore 4, 2) := by decide +kernel
theorem dX9_spread_61 : decode cX9_spread 61 = .ok (.aload_n 0, 1) := by decide +kernel
theorem dX9_spread_62 : decode cX9_spread 62 = .ok (.getfield 50, 3) := by decide +kernel
theorem dX9_spread_65 : decode cX9_spread 65 = .ok (.iconst 0, 1) := by decide +kernel
theorem dX9_spread_66 : decode cX9_spread 66 = .ok (.iload_n 1, 1) := by decide +kernel
theorem dX9_spread_67 : decode cX9_spread 67 = .ok (.iastore, 1) := by decide +kernel
theorem dX9_spread_68 : decode cX9_spread 68 = .ok (.aload_n 0, 1) := by decide +kernel
theorem dX9_spread_69 : decode cX9_spread 69 = .ok (.getfield 47, 3) := by decide +kernel
theorem dX9_spread_72 : decode cX9_spread 72 = .ok (.iload_n 3, 1) := by decide +kernel
theorem dX9_spread_73 : decode cX9_spread 73 = .ok (.iload_n 1, 1) := by decide +kernel
theorem dX9_spread_74 : decode cX9_spread 74 = .ok (.iadd, 1) := by decide +kernel
theorem dX9_spread_75 : decode cX9_spread 75 = .ok (.iconst 0, 1) := by decide +kernel
theorem dX9_spread_76 : decode cX9_spread 76 = .ok (.iastore, 1) := by decide +kernel
theorem dX9_spread_77 : decode cX9_spread 77 = .ok (.iconst 0, 1) := by decide +kernel
theorem dX9_spread_78 : decode cX9_spread 78 = .ok (.istore 5, 2) := by decide +kernel
theorem dX9_spread_80 : decode cX9_spread 80 = .ok (.iload 5, 2) := by decide +kernel
theorem dX9_spread_82 : decode cX9_spread 82 = .ok (.iload 4, 2) := by decide +kernel
theorem dX9_spread_84 : decode cX9_spread 84 = .ok (.if_icmp .ge 112, 3) := by decide +kernel
theorem dX9_spread_87 : decode cX9_spread 87 = .ok (.iload 5, 2) := by decide +kernel
theorem dX9_spread_89 : decode cX9_spread 89 = .ok (.bipush 64, 2) := by decide +kernel
theorem dX9_spread_91 : decode cX9_spread 91 = .ok (.if_icmp .ge 105, 3) := by decide +kernel
theorem dX9_spread_94 : decode cX9_spread 94 = .ok (.aload_n 0, 1) := by decide +kernel
theorem dX9_spread_95 : decode cX9_spread 95 = .ok (.getfield 50, 3) := by decide +kernel
theorem dX9_spread_98 : decode cX9_spread 98 = .ok (.iload 5, 2) := by decide +kernel
theorem dX9_spread_100 : decode cX9_spread 100 = .ok (.iaload, 1) := by decide +kernel
theorem dX9_spread_101 : decode cX9_spread 101 = .ok (.istore 6, 2) := by decide +kernel
theorem dX9_spread_103 : decode cX9_spread 103 = .ok (.iconst 0, 1) := by decide +kernel
theorem dX9_spread_104 : decode cX9_spread 104 = .ok (.istore 7, 2) := by decide +kernel
theorem dX9_spread_106 : decode cX9_spread 106 = .ok (.iload 7, 2) := by decide +kernel
theorem dX9_spread_108 : decode cX9_spread 108 = .ok (.iconst 4, 1) := by decide +kernel
theorem dX9_spread_109 : decode cX9_spread 109 = .ok (.if_icmp .ge 81, 3) := by decide +kernel
theorem dX9_spread_112 : decode cX9_spread 112 = .ok (.aload_n 0, 1) := by decide +kernel
theorem dX9_spread_113 : decode cX9_spread 113 = .ok (.iload 6, 2) := by decide +kernel
theorem dX9_spread_115 : decode cX9_spread 115 = .ok (.iload 7, 2) := by decide +kernel
theorem dX9_spread_117 : decode cX9_spread 117 = .ok (.invokevirtual 64, 3) := by decide +kernel
theorem dX9_spread_120 : decode cX9_spread 120 = .ok (.istore 8, 2) := by decide +kernel
theorem dX9_spread_122 : decode cX9_spread 122 = .ok (.aload_n 0, 1) := by decide +kernel
theorem dX9_spread_123 : decode cX9_spread 123 = .ok (.iload 8, 2) := by decide +kernel
theorem dX9_spread_125 : decode cX9_spread 125 = .ok (.invokevirtual 61, 3) := by decide +kernel
theorem dX9_spread_128 : decode cX9_spread 128 = .ok (.ifCond .eq 56, 3) := by decide +kernel
theorem dX9_spread_131 : decode cX9_spread 131 = .ok (.aload_n 0, 1) := by decide +kernel
theorem dX9_spread_132 : decode cX9_spread 132 = .ok (.getfield 47, 3) := by decide +kernel
theorem dX9_spread_135 : decode cX9_spread 135 = .ok (.iload_n 3, 1) := by decide +kernel
theorem dX9_spread_136 : decode cX9_spread 136 = .ok (.iload 8, 2) := by decide +kernel
theorem dX9_spread_138 : decode cX9_spread 138 = .ok (.iadd, 1) := by decide +kernel
theorem dX9_spread_139 : decode cX9_spread 139 = .ok (.iaload, 1) := by decide +kernel
theorem dX9_spread_140 : decode cX9_spread 140 = .ok (.bipush 99, 2) := by decide +kernel
theorem dX9_spread_142 : decode cX9_spread 142 = .ok (.if_icmp .ne 42, 3) := by decide +kernel
theorem dX9_spread_145 : decode cX9_spread 145 = .ok (.iload 4, 2) := by decide +kernel
theorem dX9_spread_147 : decode cX9_spread 147 = .ok (.bipush 64, 2) := by decide +kernel
theorem dX9_spread_149 : decode cX9_spread 149 = .ok (.if_icmp .ge 35, 3) := by decide +kernel
theorem dX9_spread_152 : decode cX9_spread 152 = .ok (.aload_n 0, 1) := by decide +kernel
theorem dX9_spread_153 : decode cX9_spread 153 = .ok (.getfield 47, 3) := by decide +kernel
theorem dX9_spread_156 : decode cX9_spread 156 = .ok (.iload_n 3, 1) := by decide +kernel
theorem dX9_spread_157 : decode cX9_spread 157 = .ok (.iload 8, 2) := by decide +kernel
theorem dX9_spread_159 : decode cX9_spread 159 = .ok (.iadd, 1) := by decide +kernel
theorem dX9_spread_160 : decode cX9_spread 160 = .ok (.aload_n 0, 1) := by decide +kernel
theorem dX9_spread_161 : decode cX9_spread 161 = .ok (.getfield 47, 3) := by decide +kernel
theorem dX9_spread_164 : decode cX9_spread 164 = .ok (.iload_n 3, 1) := by decide +kernel
theorem dX9_spread_165 : decode cX9_spread 165 = .ok (.iload 6, 2) := by decide +kernel
theorem dX9_spread_167 : decode cX9_spread 167 = .ok (.iadd, 1) := by decide +kernel
theorem dX9_spread_168 : decode cX9_spread 168 = .ok (.iaload, 1) := by decide +kernel
theorem dX9_spread_169 : decode cX9_spread 169 = .ok (.iconst 1, 1) := by decide +kernel
theorem dX9_spread_170 : decode cX9_spread 170 = .ok (.iadd, 1) := by decide +kernel
theorem dX9_spread_171 : decode cX9_spread 171 = .ok (.iastore, 1) := by decide +kernel
theorem dX9_spread_172 : decode cX9_spread 172 = .ok (.aload_n 0, 1) := by decide +kernel
theorem dX9_spread_173 : decode cX9_spread 173 = .ok (.getfield 50, 3) := by decide +kernel
theorem dX9_spread_176 : decode cX9_spread 176 = .ok (.iload 4, 2) := by decide +kernel
theorem dX9_spread_178 : decode cX9_spread 178 = .ok (.iload 8, 2) := by decide +kernel
theorem dX9_spread_180 : decode cX9_spread 180 = .ok (.iastore, 1) := by decide +kernel
theorem dX9_spread_181 : decode cX9_spread 181 = .ok (.iinc 4 1, 3) := by decide +kernel
theorem dX9_spread_184 : decode cX9_spread 184 = .ok (.iinc 7 1, 3) := by decide +kernel
theorem dX9_spread_187 : decode cX9_spread 187 = .ok (.goto (-81), 3) := by decide +kernel
theorem dX9_spread_190 : decode cX9_spread 190 = .ok (.iinc 5 1, 3) := by decide +kernel
theorem dX9_spread_193 : decode cX9_spread 193 = .ok (.goto (-113), 3) := by decide +kernel
theorem dX9_spread_196 : decode cX9_spread 196 = .ok (.return_, 1) := by decide +kernel
noncomputable def b_X9_spread_0 (rec : Rk) (x0 x1 x2 : Int) (h : Hp) : Option (Int × Hp) :=
  ck (-2147483648 ≤ x2 * 64 ∧ x2 * 64 < 2147483648) <|
  lt (x2 * 64) fun z1 =>
  if z1 < 0 then (
    some (0, h)
  ) else (
    ck (-2147483648 ≤ z1 + 64 ∧ z1 + 64 < 2147483648) <|
    if (z1 + 64) ≤ 320 then (
      rec 1 [x0, x1, z1, 0] h
    ) else (
      some (0, h)
    )
  )
noncomputable def b_X9_spread_1 (rec : Rk) (x0 x1 x3 x4 : Int) (h : Hp) : Option (Int × Hp) :=
  if 64 ≤ x4 then (
    bd (f_X9_isWater x0 x1 h) fun v1 h2 =>
    if v1 = 0 then (
      some (0, h2)
    ) else (
      ck (0 ≤ (0 : Int) ∧ (0 : Int) < 64) <|
      lt (sI h2 56 x0 0 x1) fun h3 =>
      ck (-2147483648 ≤ x3 + x1 ∧ x3 + x1 < 2147483648) <|
      ck (0 ≤ (x3 + x1) ∧ (x3 + x1) < 320) <|
      lt (sI h3 55 x0 (x3 + x1) 0) fun h4 =>
      rec 2 [x0, x3, 1, 0] h4
    )
  ) else (
    ck (-2147483648 ≤ x3 + x4 ∧ x3 + x4 < 2147483648) <|
    ck (0 ≤ (x3 + x4) ∧ (x3 + x4) < 320) <|
    lt (sI h 55 x0 (x3 + x4) 99) fun h5 =>
    ck (-2147483648 ≤ x4 + 1 ∧ x4 + 1 < 2147483648) <|
    rec 1 [x0, x1, x3, x4 + 1] h5
  )
noncomputable def b_X9_spread_2 (rec : Rk) (x0 x3 x4 x5 : Int) (h : Hp) : Option (Int × Hp) :=
  if x4 ≤ x5 then (
    some (0, h)
  ) else (
    if 64 ≤ x5 then (
      some (0, h)
    ) else (
      ck (0 ≤ x5 ∧ x5 < 64) <|
      lt (gI h 56 x0 x5) fun z1 =>
      rec 3 [x0, x3, x4, x5, z1, 0] h
    )
  )
noncomputable def b_X9_spread_3 (rec : Rk) (x0 x3 x4 x5 x6 x7 : Int) (h : Hp) : Option (Int × Hp) :=
  if 4 ≤ x7 then (
    ck (-2147483648 ≤ x5 + 1 ∧ x5 + 1 < 2147483648) <|
    rec 2 [x0, x3, x4, x5 + 1] h
  ) else (
    bd (f_X9_step x0 x6 x7 h) fun v1 h2 =>
    bd (f_X9_isWater x0 v1 h2) fun v3 h4 =>
    if v3 = 0 then (
      rec 4 [x0, x3, x4, x5, x6, x7] h4
    ) else (
      ck (-2147483648 ≤ x3 + v1 ∧ x3 + v1 < 2147483648) <|
      ck (0 ≤ (x3 + v1) ∧ (x3 + v1) < 320) <|
      if (gI h4 55 x0 (x3 + v1)) = 99 then (
        if 64 ≤ x4 then (
          rec 4 [x0, x3, x4, x5, x6, x7] h4
        ) else (
          ck (-2147483648 ≤ x3 + v1 ∧ x3 + v1 < 2147483648) <|
          ck (-2147483648 ≤ x3 + x6 ∧ x3 + x6 < 2147483648) <|
          ck (0 ≤ (x3 + x6) ∧ (x3 + x6) < 320) <|
          ck (-2147483648 ≤ (gI h4 55 x0 (x3 + x6)) + 1 ∧ (gI h4 55 x0 (x3 + x6)) + 1 < 2147483648) <|
          ck (0 ≤ (x3 + v1) ∧ (x3 + v1) < 320) <|
          lt (sI h4 55 x0 (x3 + v1) ((gI h4 55 x0 (x3 + x6)) + 1)) fun h5 =>
          ck (0 ≤ x4 ∧ x4 < 64) <|
          lt (sI h5 56 x0 x4 v1) fun h6 =>
          ck (-2147483648 ≤ x4 + 1 ∧ x4 + 1 < 2147483648) <|
          rec 4 [x0, x3, x4 + 1, x5, x6, x7] h6
        )
      ) else (
        rec 4 [x0, x3, x4, x5, x6, x7] h4
      )
    )
  )
noncomputable def b_X9_spread_4 (rec : Rk) (x0 x3 x4 x5 x6 x7 : Int) (h : Hp) : Option (Int × Hp) :=
  ck (-2147483648 ≤ x7 + 1 ∧ x7 + 1 < 2147483648) <|
  rec 3 [x0, x3, x4, x5, x6, x7 + 1] h
noncomputable def g_X9_spread (n : Nat) : Rk := Nat.rec (motive := fun _ => Rk) (fun _ _ _ => none) (fun _ rec k l h => if k = 0 then b_X9_spread_0 rec (l.getD 0 0) (l.getD 1 0) (l.getD 2 0) h else if k = 1 then b_X9_spread_1 rec (l.getD 0 0) (l.getD 1 0) (l.getD 2 0) (l.getD 3 0) h else if k = 2 then b_X9_spread_2 rec (l.getD 0 0) (l.getD 1 0) (l.getD 2 0) (l.getD 3 0) h else if k = 3 then b_X9_spread_3 rec (l.getD 0 0) (l.getD 1 0) (l.getD 2 0) (l.getD 3 0) (l.getD 4 0) (l.getD 5 0) h else if k = 4 then b_X9_spread_4 rec (l.getD 0 0) (l.getD 1 0) (l.getD 2 0) (l.getD 3 0) (l.getD 4 0) (l.getD 5 0) h else none) n
noncomputable def f_X9_spread (x0 x1 x2 : Int) (h : Hp) : Option (Int × Hp) := g_X9_spread FU 0 [x0, x1, x2] h
set_option maxHeartbeats 4000000 in
set_option maxRecDepth 100000 in
theorem t_X9_spread_0 (E : xE) (d : Nat) (rec : Rk) (r : Int × Hp) (hr_25 : ∀ (x0 x1 x3 x4 : Int) (h : Hp), Lay h → rec 1 [x0, x1, x3, x4] h = some r → X E mX9_spread (d + 3) (0, 0) (0, 0) 25 [some (xr 9 x0), some (xi x1), none, some (xi x3), some (xi x4), none, none, none, none] [] h (PoV r)) (x0 x1 x2 : Int) (h : Hp) (hL : Lay h) (hF : b_X9_spread_0 rec x0 x1 x2 h = some r) : X E mX9_spread (d + 3) (0, 0) (0, 0) 0 [some (xr 9 x0), some (xi x1), some (xi x2), none, none, none, none, none, none] [] h (PoV r) := by
  unfold b_X9_spread_0 at hF
  refine x_iload_n (i := 2) (b := 1) dX9_spread_0 rfl rfl rfl ?_
  refine x_bipush (n := 64) (b := 3) dX9_spread_1 (by decide) rfl ?_
  obtain ⟨hs, hF⟩ := ck_e hF
  refine x_imul (b := 4) dX9_spread_3 hs rfl ?_
  obtain ⟨z1, e_z1, hF⟩ := lt_e hF
  refine x_eq (y := z1) e_z1 ?_
  refine x_istore_n (i := 3) (b := 5) (ls2 := [some (xr 9 x0), some (xi x1), some (xi x2), some (xi z1), none, none, none, none, none]) dX9_spread_4 rfl (Nat.le_of_ble_eq_true rfl) rfl rfl ?_
  refine x_iload_n (i := 3) (b := 6) dX9_spread_5 rfl rfl rfl ?_
  refine x_if_lt (tgt := 21) (b := 9) dX9_spread_6 (by decide) rfl (fun hc => ?_) (fun hc => ?_)
  · replace hF := br_T hc hF
    refine x_return dX9_spread_21 rfl ⟨Nat.le_refl _, Nat.le_refl _⟩ ?_
    cases hF
    exact ⟨rfl, rfl, hL⟩
  · replace hF := br_F hc hF
    refine x_iload_n (i := 3) (b := 10) dX9_spread_9 rfl rfl rfl ?_
    refine x_bipush (n := 64) (b := 12) dX9_spread_10 (by decide) rfl ?_
    obtain ⟨hs, hF⟩ := ck_e hF
    refine x_iadd (b := 13) dX9_spread_12 hs rfl ?_
    refine x_aload_n (i := 0) (b := 14) dX9_spread_13 rfl rfl rfl ?_
    refine x_getL (j := x0) (t := (55, 0, true)) (b := 17) fk_X9_47 dX9_spread_14 rfl hL rfl rfl rfl ?_
    refine x_alen (kind := 0) (ct := 0) (b := 18) ak_55 (by decide) dX9_spread_17 rfl ?_
    refine x_eq (y := 320) rfl ?_
    refine x_icmp_le (tgt := 22) (b := 21) dX9_spread_18 (by decide) rfl (fun hc => ?_) (fun hc => ?_)
    · replace hF := br_T hc hF
      refine x_iconst (n := 0) (b := 23) dX9_spread_22 (by decide) rfl ?_
      refine x_istore (i := 4) (b := 25) (ls2 := [some (xr 9 x0), some (xi x1), some (xi x2), some (xi z1), some (xi 0), none, none, none, none]) dX9_spread_23 (Nat.le_of_ble_eq_true rfl) rfl rfl ?_
      exact x_dp (ls2 := [some (xr 9 x0), some (xi x1), none, some (xi z1), some (xi 0), none, none, none, none]) ⟨rfl, rfl, rfl, rfl, trivial⟩ (hr_25 x0 x1 z1 0 h hL hF)
    · replace hF := br_F hc hF
      refine x_return dX9_spread_21 rfl ⟨Nat.le_refl _, Nat.le_refl _⟩ ?_
      cases hF
      exact ⟨rfl, rfl, hL⟩
set_option maxHeartbeats 4000000 in
set_option maxRecDepth 100000 in
theorem t_X9_spread_1 (E : xE) (d : Nat) (rec : Rk) (r : Int × Hp) (hr_25 : ∀ (x0 x1 x3 x4 : Int) (h : Hp), Lay h → rec 1 [x0, x1, x3, x4] h = some r → X E mX9_spread (d + 3) (0, 0) (0, 0) 25 [some (xr 9 x0), some (xi x1), none, some (xi x3), some (xi x4), none, none, none, none] [] h (PoV r)) (hr_80 : ∀ (x0 x3 x4 x5 : Int) (h : Hp), Lay h → rec 2 [x0, x3, x4, x5] h = some r → X E mX9_spread (d + 3) (0, 0) (0, 0) 80 [some (xr 9 x0), none, none, some (xi x3), some (xi x4), some (xi x5), none, none, none] [] h (PoV r)) (x0 x1 x3 x4 : Int) (h : Hp) (hL : Lay h) (hF : b_X9_spread_1 rec x0 x1 x3 x4 h = some r) : X E mX9_spread (d + 3) (0, 0) (0, 0) 25 [some (xr 9 x0), some (xi x1), none, some (xi x3), some (xi x4), none, none, none, none] [] h (PoV r) := by
  unfold b_X9_spread_1 at hF
  refine x_iload (i := 4) (b := 27) dX9_spread_25 rfl rfl ?_
  refine x_bipush (n := 64) (b := 29) dX9_spread_27 (by decide) rfl ?_
  refine x_icmp_ge (tgt := 49) (b := 32) dX9_spread_29 (by decide) rfl (fun hc => ?_) (fun hc => ?_)
  · replace hF := br_T hc hF
    refine x_aload_n (i := 0) (b := 50) dX9_spread_49 rfl rfl rfl ?_
    refine x_iload_n (i := 1) (b := 51) dX9_spread_50 rfl rfl rfl ?_
    obtain ⟨v1, h2, hq, hF⟩ := bd_e hF
    refine x_callV (as := [xi x1]) (rest := []) (b := 54) (c_X9_isWater d x0 x1 h _ hL hq) dX9_spread_51 cw_X9_61 ⟨_, _, rfl, Nat.le_of_ble_eq_true rfl⟩ rfl rfl (Nat.le_of_ble_eq_true rfl) ⟨Nat.le_refl _, Nat.le_refl _⟩ rfl (fun rv hh hp _ => ?_)
    obtain ⟨rfl, rfl, hL⟩ := hp
    refine x_if_ne (tgt := 58) (b := 57) dX9_spread_54 (by decide) rfl (fun hc => ?_) (fun hc => ?_)
    · replace hF := br_F hc hF
      refine x_iconst (n := 1) (b := 59) dX9_spread_58 (by decide) rfl ?_
      refine x_istore (i := 4) (b := 61) (ls2 := [some (xr 9 x0), some (xi x1), none, some (xi x3), some (xi 1), none, none, none, none]) dX9_spread_59 (Nat.le_of_ble_eq_true rfl) rfl rfl ?_
      refine x_aload_n (i := 0) (b := 62) dX9_spread_61 rfl rfl rfl ?_
      refine x_getL (j := x0) (t := (56, 0, true)) (b := 65) fk_X9_50 dX9_spread_62 rfl hL rfl rfl rfl ?_
      refine x_iconst (n := 0) (b := 66) dX9_spread_65 (by decide) rfl ?_
      refine x_iload_n (i := 1) (b := 67) dX9_spread_66 rfl rfl rfl ?_
      obtain ⟨hs, hF⟩ := ck_e hF
      have hs1 := hs
      refine x_iast (b := 68) ak_56 dX9_spread_67 hs1 rfl ?_
      obtain ⟨h3, e_h3, hF⟩ := lt_e hF
      refine x_hp (h2 := h3) e_h3 ?_
      replace hL : Lay h3 := by rw [← e_h3]; exact hL
      refine x_aload_n (i := 0) (b := 69) dX9_spread_68 rfl rfl rfl ?_
      refine x_getL (j := x0) (t := (55, 0, true)) (b := 72) fk_X9_47 dX9_spread_69 rfl hL rfl rfl rfl ?_
      refine x_iload_n (i := 3) (b := 73) dX9_spread_72 rfl rfl rfl ?_
      refine x_iload_n (i := 1) (b := 74) dX9_spread_73 rfl rfl rfl ?_
      obtain ⟨hs, hF⟩ := ck_e hF
      refine x_iadd (b := 75) dX9_spread_74 hs rfl ?_
      refine x_iconst (n := 0) (b := 76) dX9_spread_75 (by decide) rfl ?_
      obtain ⟨hs, hF⟩ := ck_e hF
      have hs1 := hs
      refine x_iast (b := 77) ak_55 dX9_spread_76 hs1 rfl ?_
      obtain ⟨h4, e_h4, hF⟩ := lt_e hF
      refine x_hp (h2 := h4) e_h4 ?_
      replace hL : Lay h4 := by rw [← e_h4]; exact hL
      refine x_iconst (n := 0) (b := 78) dX9_spread_77 (by decide) rfl ?_
      refine x_istore (i := 5) (b := 80) (ls2 := [some (xr 9 x0), some (xi x1), none, some (xi x3), some (xi 1), some (xi 0), none, none, none]) dX9_spread_78 (Nat.le_of_ble_eq_true rfl) rfl rfl ?_
      exact x_dp (ls2 := [some (xr 9 x0), none, none, some (xi x3), some (xi 1), some (xi 0), none, none, none]) ⟨rfl, rfl, rfl, rfl, trivial⟩ (hr_80 x0 x3 1 0 h4 hL hF)
    · replace hF := br_T hc hF
      refine x_return dX9_spread_57 rfl ⟨Nat.le_refl _, Nat.le_refl _⟩ ?_
      cases hF
      exact ⟨rfl, rfl, hL⟩
  · replace hF := br_F hc hF
    refine x_aload_n (i := 0) (b := 33) dX9_spread_32 rfl rfl rfl ?_
    refine x_getL (j := x0) (t := (55, 0, true)) (b := 36) fk_X9_47 dX9_spread_33 rfl hL rfl rfl rfl ?_
    refine x_iload_n (i := 3) (b := 37) dX9_spread_36 rfl rfl rfl ?_
    refine x_iload (i := 4) (b := 39) dX9_spread_37 rfl rfl ?_
    obtain ⟨hs, hF⟩ := ck_e hF
    refine x_iadd (b := 40) dX9_spread_39 hs rfl ?_
    refine x_bipush (n := 99) (b := 42) dX9_spread_40 (by decide) rfl ?_
    obtain ⟨hs, hF⟩ := ck_e hF
    have hs1 := hs
    refine x_iast (b := 43) ak_55 dX9_spread_42 hs1 rfl ?_
    obtain ⟨h5, e_h5, hF⟩ := lt_e hF
    refine x_hp (h2 := h5) e_h5 ?_
    replace hL : Lay h5 := by rw [← e_h5]; exact hL
    obtain ⟨hs, hF⟩ := ck_e hF
    refine x_iinc (i := 4) (b := 46) (ls2 := [some (xr 9 x0), some (xi x1), none, some (xi x3), some (xi (x4 + 1)), none, none, none, none]) dX9_spread_43 rfl (Nat.le_of_ble_eq_true rfl) hs rfl rfl ?_
    refine x_goto (tgt := 25) dX9_spread_46 (by decide) ?_
    exact x_dp (ls2 := [some (xr 9 x0), some (xi x1), none, some (xi x3), some (xi (x4 + 1)), none, none, none, none]) ⟨rfl, rfl, rfl, rfl, trivial⟩ (hr_25 x0 x1 x3 (x4 + 1) h5 hL hF)
set_option maxHeartbeats 4000000 in
set_option maxRecDepth 100000 in
theorem t_X9_spread_2 (E : xE) (d : Nat) (rec : Rk) (r : Int × Hp) (hr_106 : ∀ (x0 x3 x4 x5 x6 x7 : Int) (h : Hp), Lay h → rec 3 [x0, x3, x4, x5, x6, x7] h = some r → X E mX9_spread (d + 3) (0, 0) (0, 0) 106 [some (xr 9 x0), none, none, some (xi x3), some (xi x4), some (xi x5), some (xi x6), some (xi x7), none] [] h (PoV r)) (x0 x3 x4 x5 : Int) (h : Hp) (hL : Lay h) (hF : b_X9_spread_2 rec x0 x3 x4 x5 h = some r) : X E mX9_spread (d + 3) (0, 0) (0, 0) 80 [some (xr 9 x0), none, none, some (xi x3), some (xi x4), some (xi x5), none, none, none] [] h (PoV r) := by
  unfold b_X9_spread_2 at hF
  refine x_iload (i := 5) (b := 82) dX9_spread_80 rfl rfl ?_
  refine x_iload (i := 4) (b := 84) dX9_spread_82 rfl rfl ?_
  refine x_icmp_ge (tgt := 196) (b := 87) dX9_spread_84 (by decide) rfl (fun hc => ?_) (fun hc => ?_)
  · replace hF := br_T hc hF
    refine x_return dX9_spread_196 rfl ⟨Nat.le_refl _, Nat.le_refl _⟩ ?_
    cases hF
    exact ⟨rfl, rfl, hL⟩
  · replace hF := br_F hc hF
    refine x_iload (i := 5) (b := 89) dX9_spread_87 rfl rfl ?_
    refine x_bipush (n := 64) (b := 91) dX9_spread_89 (by decide) rfl ?_
    refine x_icmp_ge (tgt := 196) (b := 94) dX9_spread_91 (by decide) rfl (fun hc => ?_) (fun hc => ?_)
    · replace hF := br_T hc hF
      refine x_return dX9_spread_196 rfl ⟨Nat.le_refl _, Nat.le_refl _⟩ ?_
      cases hF
      exact ⟨rfl, rfl, hL⟩
    · replace hF := br_F hc hF
      refine x_aload_n (i := 0) (b := 95) dX9_spread_94 rfl rfl rfl ?_
      refine x_getL (j := x0) (t := (56, 0, true)) (b := 98) fk_X9_50 dX9_spread_95 rfl hL rfl rfl rfl ?_
      refine x_iload (i := 5) (b := 100) dX9_spread_98 rfl rfl ?_
      obtain ⟨hs, hF⟩ := ck_e hF
      refine x_iald (v := gI h 56 x0 x5) (b := 101) ak_56 dX9_spread_100 hs rfl rfl ?_
      obtain ⟨z1, e_z1, hF⟩ := lt_e hF
      refine x_eq (y := z1) e_z1 ?_
      refine x_istore (i := 6) (b := 103) (ls2 := [some (xr 9 x0), none, none, some (xi x3), some (xi x4), some (xi x5), some (xi z1), none, none]) dX9_spread_101 (Nat.le_of_ble_eq_true rfl) rfl rfl ?_
      refine x_iconst (n := 0) (b := 104) dX9_spread_103 (by decide) rfl ?_
      refine x_istore (i := 7) (b := 106) (ls2 := [some (xr 9 x0), none, none, some (xi x3), some (xi x4), some (xi x5), some (xi z1), some (xi 0), none]) dX9_spread_104 (Nat.le_of_ble_eq_true rfl) rfl rfl ?_
      exact x_dp (ls2 := [some (xr 9 x0), none, none, some (xi x3), some (xi x4), some (xi x5), some (xi z1), some (xi 0), none]) ⟨rfl, rfl, rfl, rfl, rfl, rfl, trivial⟩ (hr_106 x0 x3 x4 x5 z1 0 h hL hF)
set_option maxHeartbeats 4000000 in
set_option maxRecDepth 100000 in
theorem t_X9_spread_3 (E : xE) (d : Nat) (rec : Rk) (r : Int × Hp) (hr_80 : ∀ (x0 x3 x4 x5 : Int) (h : Hp), Lay h → rec 2 [x0, x3, x4, x5] h = some r → X E mX9_spread (d + 3) (0, 0) (0, 0) 80 [some (xr 9 x0), none, none, some (xi x3), some (xi x4), some (xi x5), none, none, none] [] h (PoV r)) (hr_184 : ∀ (x0 x3 x4 x5 x6 x7 : Int) (h : Hp), Lay h → rec 4 [x0, x3, x4, x5, x6, x7] h = some r → X E mX9_spread (d + 3) (0, 0) (0, 0) 184 [some (xr 9 x0), none, none, some (xi x3), some (xi x4), some (xi x5), some (xi x6), some (xi x7), none] [] h (PoV r)) (x0 x3 x4 x5 x6 x7 : Int) (h : Hp) (hL : Lay h) (hF : b_X9_spread_3 rec x0 x3 x4 x5 x6 x7 h = some r) : X E mX9_spread (d + 3) (0, 0) (0, 0) 106 [some (xr 9 x0), none, none, some (xi x3), some (xi x4), some (xi x5), some (xi x6), some (xi x7), none] [] h (PoV r) := by
  unfold b_X9_spread_3 at hF
  refine x_iload (i := 7) (b := 108) dX9_spread_106 rfl rfl ?_
  refine x_iconst (n := 4) (b := 109) dX9_spread_108 (by decide) rfl ?_
  refine x_icmp_ge (tgt := 190) (b := 112) dX9_spread_109 (by decide) rfl (fun hc => ?_) (fun hc => ?_)
  · replace hF := br_T hc hF
    obtain ⟨hs, hF⟩ := ck_e hF
    refine x_iinc (i := 5) (b := 193) (ls2 := [some (xr 9 x0), none, none, some (xi x3), some (xi x4), some (xi (x5 + 1)), some (xi x6), some (xi x7), none]) dX9_spread_190 rfl (Nat.le_of_ble_eq_true rfl) hs rfl rfl ?_
    refine x_goto (tgt := 80) dX9_spread_193 (by decide) ?_
    exact x_dp (ls2 := [some (xr 9 x0), none, none, some (xi x3), some (xi x4), some (xi (x5 + 1)), none, none, none]) ⟨rfl, rfl, rfl, rfl, trivial⟩ (hr_80 x0 x3 x4 (x5 + 1) h hL hF)
  · replace hF := br_F hc hF
    refine x_aload_n (i := 0) (b := 113) dX9_spread_112 rfl rfl rfl ?_
    refine x_iload (i := 6) (b := 115) dX9_spread_113 rfl rfl ?_
    refine x_iload (i := 7) (b := 117) dX9_spread_115 rfl rfl ?_
    obtain ⟨v1, h2, hq, hF⟩ := bd_e hF
    refine x_callV (as := [xi x6, xi x7]) (rest := []) (b := 120) (c_X9_step d x0 x6 x7 h _ hL hq) dX9_spread_117 cw_X9_64 ⟨_, _, rfl, Nat.le_of_ble_eq_true rfl⟩ rfl rfl (Nat.le_of_ble_eq_true rfl) ⟨Nat.le_refl _, Nat.le_refl _⟩ rfl (fun rv hh hp _ => ?_)
    obtain ⟨rfl, rfl, hL⟩ := hp
    refine x_istore (i := 8) (b := 122) (ls2 := [some (xr 9 x0), none, none, some (xi x3), some (xi x4), some (xi x5), some (xi x6), some (xi x7), some (xi v1)]) dX9_spread_120 (Nat.le_of_ble_eq_true rfl) rfl rfl ?_
    refine x_aload_n (i := 0) (b := 123) dX9_spread_122 rfl rfl rfl ?_
    refine x_iload (i := 8) (b := 125) dX9_spread_123 rfl rfl ?_
    obtain ⟨v3, h4, hq, hF⟩ := bd_e hF
    refine x_callV (as := [xi v1]) (rest := []) (b := 128) (c_X9_isWater d x0 v1 h2 _ hL hq) dX9_spread_125 cw_X9_61 ⟨_, _, rfl, Nat.le_of_ble_eq_true rfl⟩ rfl rfl (Nat.le_of_ble_eq_true rfl) ⟨Nat.le_refl _, Nat.le_refl _⟩ rfl (fun rv hh hp _ => ?_)
    obtain ⟨rfl, rfl, hL⟩ := hp
    refine x_if_eq (tgt := 184) (b := 131) dX9_spread_128 (by decide) rfl (fun hc => ?_) (fun hc => ?_)
    · replace hF := br_T hc hF
      exact x_dp (ls2 := [some (xr 9 x0), none, none, some (xi x3), some (xi x4), some (xi x5), some (xi x6), some (xi x7), none]) ⟨rfl, rfl, rfl, rfl, rfl, rfl, trivial⟩ (hr_184 x0 x3 x4 x5 x6 x7 h4 hL hF)
    · replace hF := br_F hc hF
      refine x_aload_n (i := 0) (b := 132) dX9_spread_131 rfl rfl rfl ?_
      refine x_getL (j := x0) (t := (55, 0, true)) (b := 135) fk_X9_47 dX9_spread_132 rfl hL rfl rfl rfl ?_
      refine x_iload_n (i := 3) (b := 136) dX9_spread_135 rfl rfl rfl ?_
      refine x_iload (i := 8) (b := 138) dX9_spread_136 rfl rfl ?_
      obtain ⟨hs, hF⟩ := ck_e hF
      refine x_iadd (b := 139) dX9_spread_138 hs rfl ?_
      obtain ⟨hs, hF⟩ := ck_e hF
      refine x_iald (v := gI h4 55 x0 (x3 + v1)) (b := 140) ak_55 dX9_spread_139 hs rfl rfl ?_
      refine x_bipush (n := 99) (b := 142) dX9_spread_140 (by decide) rfl ?_
      refine x_icmp_ne (tgt := 184) (b := 145) dX9_spread_142 (by decide) rfl (fun hc => ?_) (fun hc => ?_)
      · replace hF := br_F hc hF
        exact x_dp (ls2 := [some (xr 9 x0), none, none, some (xi x3), some (xi x4), some (xi x5), some (xi x6), some (xi x7), none]) ⟨rfl, rfl, rfl, rfl, rfl, rfl, trivial⟩ (hr_184 x0 x3 x4 x5 x6 x7 h4 hL hF)
      · replace hF := br_T hc hF
        refine x_iload (i := 4) (b := 147) dX9_spread_145 rfl rfl ?_
        refine x_bipush (n := 64) (b := 149) dX9_spread_147 (by decide) rfl ?_
        refine x_icmp_ge (tgt := 184) (b := 152) dX9_spread_149 (by decide) rfl (fun hc => ?_) (fun hc => ?_)
        · replace hF := br_T hc hF
          exact x_dp (ls2 := [some (xr 9 x0), none, none, some (xi x3), some (xi x4), some (xi x5), some (xi x6), some (xi x7), none]) ⟨rfl, rfl, rfl, rfl, rfl, rfl, trivial⟩ (hr_184 x0 x3 x4 x5 x6 x7 h4 hL hF)
        · replace hF := br_F hc hF
          refine x_aload_n (i := 0) (b := 153) dX9_spread_152 rfl rfl rfl ?_
          refine x_getL (j := x0) (t := (55, 0, true)) (b := 156) fk_X9_47 dX9_spread_153 rfl hL rfl rfl rfl ?_
          refine x_iload_n (i := 3) (b := 157) dX9_spread_156 rfl rfl rfl ?_
          refine x_iload (i := 8) (b := 159) dX9_spread_157 rfl rfl ?_
          obtain ⟨hs, hF⟩ := ck_e hF
          refine x_iadd (b := 160) dX9_spread_159 hs rfl ?_
          refine x_aload_n (i := 0) (b := 161) dX9_spread_160 rfl rfl rfl ?_
          refine x_getL (j := x0) (t := (55, 0, true)) (b := 164) fk_X9_47 dX9_spread_161 rfl hL rfl rfl rfl ?_
          refine x_iload_n (i := 3) (b := 165) dX9_spread_164 rfl rfl rfl ?_
          refine x_iload (i := 6) (b := 167) dX9_spread_165 rfl rfl ?_
          obtain ⟨hs, hF⟩ := ck_e hF
          refine x_iadd (b := 168) dX9_spread_167 hs rfl ?_
          obtain ⟨hs, hF⟩ := ck_e hF
          refine x_iald (v := gI h4 55 x0 (x3 + x6)) (b := 169) ak_55 dX9_spread_168 hs rfl rfl ?_
          refine x_iconst (n := 1) (b := 170) dX9_spread_169 (by decide) rfl ?_
          obtain ⟨hs, hF⟩ := ck_e hF
          refine x_iadd (b := 171) dX9_spread_170 hs rfl ?_
          obtain ⟨hs, hF⟩ := ck_e hF
          have hs1 := hs
          refine x_iast (b := 172) ak_55 dX9_spread_171 hs1 rfl ?_
          obtain ⟨h5, e_h5, hF⟩ := lt_e hF
          refine x_hp (h2 := h5) e_h5 ?_
          replace hL : Lay h5 := by rw [← e_h5]; exact hL
          refine x_aload_n (i := 0) (b := 173) dX9_spread_172 rfl rfl rfl ?_
          refine x_getL (j := x0) (t := (56, 0, true)) (b := 176) fk_X9_50 dX9_spread_173 rfl hL rfl rfl rfl ?_
          refine x_iload (i := 4) (b := 178) dX9_spread_176 rfl rfl ?_
          refine x_iload (i := 8) (b := 180) dX9_spread_178 rfl rfl ?_
          obtain ⟨hs, hF⟩ := ck_e hF
          have hs1 := hs
          refine x_iast (b := 181) ak_56 dX9_spread_180 hs1 rfl ?_
          obtain ⟨h6, e_h6, hF⟩ := lt_e hF
          refine x_hp (h2 := h6) e_h6 ?_
          replace hL : Lay h6 := by rw [← e_h6]; exact hL
          obtain ⟨hs, hF⟩ := ck_e hF
          refine x_iinc (i := 4) (b := 184) (ls2 := [some (xr 9 x0), none, none, some (xi x3), some (xi (x4 + 1)), some (xi x5), some (xi x6), some (xi x7), some (xi v1)]) dX9_spread_181 rfl (Nat.le_of_ble_eq_true rfl) hs rfl rfl ?_
          exact x_dp (ls2 := [some (xr 9 x0), none, none, some (xi x3), some (xi (x4 + 1)), some (xi x5), some (xi x6), some (xi x7), none]) ⟨rfl, rfl, rfl, rfl, rfl, rfl, trivial⟩ (hr_184 x0 x3 (x4 + 1) x5 x6 x7 h6 hL hF)
set_option maxHeartbeats 4000000 in
set_option maxRecDepth 100000 in
theorem t_X9_spread_4 (E : xE) (d : Nat) (rec : Rk) (r : Int × Hp) (hr_106 : ∀ (x0 x3 x4 x5 x6 x7 : Int) (h : Hp), Lay h → rec 3 [x0, x3, x4, x5, x6, x7] h = some r → X E mX9_spread (d + 3) (0, 0) (0, 0) 106 [some (xr 9 x0), none, none, some (xi x3), some (xi x4), some (xi x5), some (xi x6), some (xi x7), none] [] h (PoV r)) (x0 x3 x4 x5 x6 x7 : Int) (h : Hp) (hL : Lay h) (hF : b_X9_spread_4 rec x0 x3 x4 x5 x6 x7 h = some r) : X E mX9_spread (d + 3) (0, 0) (0, 0) 184 [some (xr 9 x0), none, none, some (xi x3), some (xi x4), some (xi x5), some (xi x6), some (xi x7), none] [] h (PoV r) := by
  unfold b_X9_spread_4 at hF
  obtain ⟨hs, hF⟩ := ck_e hF
  refine x_iinc (i := 7) (b := 187) (ls2 := [some (xr 9 x0), none, none, some (xi x3), some (xi x4), some (xi x5), some (xi x6), some (xi (x7 + 1)), none]) dX9_spread_184 rfl (Nat.le_of_ble_eq_true rfl) hs rfl rfl ?_
  refine x_goto (tgt := 106) dX9_spread_187 (by decide) ?_
  exact x_dp (ls2 := [some (xr 9 x0), none, none, some (xi x3), some (xi x4), some (xi x5), some (xi x6), some (xi (x7 + 1)), none]) ⟨rfl, rfl, rfl, rfl, rfl, rfl, trivial⟩ (hr_106 x0 x3 x4 x5 x6 (x7 + 1) h hL hF)
set_option maxHeartbeats 4000000 in
set_option maxRecDepth 100000 in
theorem u_X9_spread (E : xE) (d : Nat) (r : Int × Hp) : ∀ n : Nat, (∀ (x0 x1 x2 : Int) (h : Hp), Lay h → g_X9_spread n 0 [x0, x1, x2] h = some r → X E mX9_spread (d + 3) (0, 0) (0, 0) 0 [some (xr 9 x0), some (xi x1), some (xi x2), none, none, none, none, none, none] [] h (PoV r)) ∧ (∀ (x0 x1 x3 x4 : Int) (h : Hp), Lay h → g_X9_spread n 1 [x0, x1, x3, x4] h = some r → X E mX9_spread (d + 3) (0, 0) (0, 0) 25 [some (xr 9 x0), some (xi x1), none, some (xi x3), some (xi x4), none, none, none, none] [] h (PoV r)) ∧ (∀ (x0 x3 x4 x5 : Int) (h : Hp), Lay h → g_X9_spread n 2 [x0, x3, x4, x5] h = some r → X E mX9_spread (d + 3) (0, 0) (0, 0) 80 [some (xr 9 x0), none, none, some (xi x3), some (xi x4), some (xi x5), none, none, none] [] h (PoV r)) ∧ (∀ (x0 x3 x4 x5 x6 x7 : Int) (h : Hp), Lay h → g_X9_spread n 3 [x0, x3, x4, x5, x6, x7] h = some r → X E mX9_spread (d + 3) (0, 0) (0, 0) 106 [some (xr 9 x0), none, none, some (xi x3), some (xi x4), some (xi x5), some (xi x6), some (xi x7), none] [] h (PoV r)) ∧ (∀ (x0 x3 x4 x5 x6 x7 : Int) (h : Hp), Lay h → g_X9_spread n 4 [x0, x3, x4, x5, x6, x7] h = some r → X E mX9_spread (d + 3) (0, 0) (0, 0) 184 [some (xr 9 x0), none, none, some (xi x3), some (xi x4), some (xi x5), some (xi x6), some (xi x7), none] [] h (PoV r)) := by
  intro n
  induction n with
  | zero => exact ⟨fun _ _ _ _ _ hF => no_e (r := r) hF, fun _ _ _ _ _ _ hF => no_e (r := r) hF, fun _ _ _ _ _ _ hF => no_e (r := r) hF, fun _ _ _ _ _ _ _ _ hF => no_e (r := r) hF, fun _ _ _ _ _ _ _ _ hF => no_e (r := r) hF⟩
  | succ n ih => exact ⟨fun x0 x1 x2 h hL hF => t_X9_spread_0 E d (g_X9_spread n) r ih.2.1 x0 x1 x2 h hL hF, fun x0 x1 x3 x4 h hL hF => t_X9_spread_1 E d (g_X9_spread n) r ih.2.1 ih.2.2.1 x0 x1 x3 x4 h hL hF, fun x0 x3 x4 x5 h hL hF => t_X9_spread_2 E d (g_X9_spread n) r ih.2.2.2.1 x0 x3 x4 x5 h hL hF, fun x0 x3 x4 x5 x6 x7 h hL hF => t_X9_spread_3 E d (g_X9_spread n) r ih.2.2.1 ih.2.2.2.2 x0 x3 x4 x5 x6 x7 h hL hF, fun x0 x3 x4 x5 x6 x7 h hL hF => t_X9_spread_4 E d (g_X9_spread n) r ih.2.2.2.1 x0 x3 x4 x5 x6 x7 h hL hF⟩
theorem c_X9_spread (d : Nat) (x0 x1 x2 : Int) (h : Hp) (r : Int × Hp) (hL : Lay h) (hF : f_X9_spread x0 x1 x2 h = some r) : Sp mX9_spread (d + 3) (0, 0) [xr 9 x0, xi x1, xi x2] h (PoV r) :=
  sp_of (by decide) rfl (Nat.le_of_ble_eq_true rfl) (ls := [some (xr 9 x0), some (xi x1), some (xi x2), none, none, none, none, none, none]) rfl (fun E _ => (u_X9_spread E d r FU).1 x0 x1 x2 h hL hF)
theorem dX11_fraud_0 : decode cX11_fraud 0 = .ok (.aload_n 0, 1) := by decide +kernel
theorem dX11_fraud_1 : decode cX11_fraud 1 = .ok (.getfield 88, 3) := by decide +kernel
theorem dX11_fraud_4 : decode cX11_fraud 4 = .ok (.invokevirtual 318, 3) := by decide +kernel
theorem dX11_fraud_7 : decode cX11_fraud 7 = .ok (.aload_n 0, 1) := by decide +kernel
theorem dX11_fraud_8 : decode cX11_fraud 8 = .ok (.getfield 88, 3) := by decide +kernel
theorem dX11_fraud_11 : decode cX11_fraud 11 = .ok (.aload_n 0, 1) := by decide +kernel
theorem dX11_fraud_12 : decode cX11_fraud 12 = .ok (.getfield 57, 3) := by decide +kernel
theorem dX11_fraud_15 : decode cX11_fraud 15 = .ok (.getfield 195, 3) := by decide +kernel
theorem dX11_fraud_18 : decode cX11_fraud 18 = .ok (.invokevirtual 330, 3) := by decide +kernel
theorem dX11_fraud_21 : decode cX11_fraud 21 = .ok (.istore_n 1, 1) := by decide +kernel
theorem dX11_fraud_22 : decode cX11_fraud 22 = .ok (.iconst 0, 1) := by decide +kernel
theorem dX11_fraud_23 : decode cX11_fraud 23 = .ok (.istore_n 2, 1) := by decide +kernel
theorem dX11_fraud_24 : decode cX11_fraud 24 = .ok (.iload_n 2, 1) := by decide +kernel
theorem dX11_fraud_25 : decode cX11_fraud 25 = .ok (.aload_n 0, 1) := by decide +kernel
theorem dX11_fraud_26 : decode cX11_fraud 26 = .ok (.getfield 57, 3) := by decide +kernel
theorem dX11_fraud_29 : decode cX11_fraud 29 = .ok (.getfield 195, 3) := by decide +kernel
theorem dX11_fraud_32 : decode cX11_fraud 32 = .ok (.if_icmp .ge 59, 3) := by decide +kernel
theorem dX11_fraud_35 : decode cX11_fraud 35 = .ok (.iload_n 2, 1) := by decide +kernel
theorem dX11_fraud_36 : decode cX11_fraud 36 = .ok (.bipush 60, 2) := by decide +kernel
theorem dX11_fraud_38 : decode cX11_fraud 38 = .ok (.if_icmp .ge 53, 3) := by decide +kernel
theorem dX11_fraud_41 : decode cX11_fraud 41 = .ok (.aload_n 0, 1) := by decide +kernel
theorem dX11_fraud_42 : decode cX11_fraud 42 = .ok (.getfield 88, 3) := by decide +kernel
theorem dX11_fraud_45 : decode cX11_fraud 45 = .ok (.iload_n 2, 1) := by decide +kernel
theorem dX11_fraud_46 : decode cX11_fraud 46 = .ok (.aload_n 0, 1) := by decide +kernel
theorem dX11_fraud_47 : decode cX11_fraud 47 = .ok (.getfield 64, 3) := by decide +kernel
theorem dX11_fraud_50 : decode cX11_fraud 50 = .ok (.getfield 257, 3) := by decide +kernel
theorem dX11_fraud_53 : decode cX11_fraud 53 = .ok (.iload_n 2, 1) := by decide +kernel
theorem dX11_fraud_54 : decode cX11_fraud 54 = .ok (.iaload, 1) := by decide +kernel
theorem dX11_fraud_55 : decode cX11_fraud 55 = .ok (.aload_n 0, 1) := by decide +kernel
theorem dX11_fraud_56 : decode cX11_fraud 56 = .ok (.getfield 64, 3) := by decide +kernel
theorem dX11_fraud_59 : decode cX11_fraud 59 = .ok (.getfield 260, 3) := by decide +kernel
theorem dX11_fraud_62 : decode cX11_fraud 62 = .ok (.iload_n 2, 1) := by decide +kernel
theorem dX11_fraud_63 : decode cX11_fraud 63 = .ok (.iaload, 1) := by decide +kernel
theorem dX11_fraud_64 : decode cX11_fraud 64 = .ok (.invokevirtual 324, 3) := by decide +kernel
theorem dX11_fraud_67 : decode cX11_fraud 67 = .ok (.istore_n 3, 1) := by decide +kernel
theorem dX11_fraud_68 : decode cX11_fraud 68 = .ok (.iload_n 3, 1) := by decide +kernel
theorem dX11_fraud_69 : decode cX11_fraud 69 = .ok (.iconst (-1), 1) := by decide +kernel
theorem dX11_fraud_70 : decode cX11_fraud 70 = .ok (.if_icmp .eq 15, 3) := by decide +kernel
theorem dX11_fraud_73 : decode cX11_fraud 73 = .ok (.iload_n 1, 1) := by decide +kernel
theorem dX11_fraud_74 : decode cX11_fraud 74 = .ok (.iconst (-1), 1) := by decide +kernel
theorem dX11_fraud_75 : decode cX11_fraud 75 = .ok (.if_icmp .eq 8, 3) := by decide +kernel
theorem dX11_fraud_78 : decode cX11_fraud 78 = .ok (.iload_n 3, 1) := by decide +kernel
theorem dX11_fraud_79 : decode cX11_fraud 79 = .ok (.iload_n 1, 1) := by decide +kernel
theorem dX11_fraud_80 : decode cX11_fraud 80 = .ok (.if_icmp .ge 5, 3) := by decide +kernel
theorem dX11_fraud_83 : decode cX11_fraud 83 = .ok (.iload_n 3, 1) := by decide +kernel
theorem dX11_fraud_84 : decode cX11_fraud 84 = .ok (.istore_n 1, 1) := by decide +kernel
theorem dX11_fraud_85 : decode cX11_fraud 85 = .ok (.iinc 2 1, 3) := by decide +kernel
theorem dX11_fraud_88 : decode cX11_fraud 88 = .ok (.goto (-64), 3) := by decide +kernel
theorem dX11_fraud_91 : decode cX11_fraud 91 = .ok (.iload_n 1, 1) := by decide +kernel
theorem dX11_fraud_92 : decode cX11_fraud 92 = .ok (.ireturn, 1) := by decide +kernel
noncomputable def b_X11_fraud_0 (rec : Rk) (h : Hp) : Option (Int × Hp) :=
  bd (f_X5_sift h) fun v1 h2 =>
  bd (f_X5_firstFrom (gI h2 10 0 0) h2) fun v3 h4 =>
  rec 1 [v3, 0] h4
noncomputable def b_X11_fraud_1 (rec : Rk) (x1 x2 : Int) (h : Hp) : Option (Int × Hp) :=
  if (gI h 10 0 0) ≤ x2 then (
    some (x1, h)
  ) else (
    if 60 ≤ x2 then (
      some (x1, h)
    ) else (
      ck (0 ≤ x2 ∧ x2 < 60) <|
      ck (0 ≤ x2 ∧ x2 < 60) <|
      bd (f_X5_firstFalse x2 (gI h 34 0 x2) (gI h 35 0 x2) h) fun v1 h2 =>
      if v1 = (-1) then (
        rec 3 [x1, x2] h2
      ) else (
        if x1 = (-1) then (
          rec 2 [x2, v1] h2
        ) else (
          if x1 ≤ v1 then (
            rec 3 [x1, x2] h2
          ) else (
            rec 2 [x2, v1] h2
          )
        )
      )
    )
  )
noncomputable def b_X11_fraud_2 (rec : Rk) (x2 x3 : Int) (h : Hp) : Option (Int × Hp) :=
  rec 3 [x3, x2] h
noncomputable def b_X11_fraud_3 (rec : Rk) (x1 x2 : Int) (h : Hp) : Option (Int × Hp) :=
  ck (-2147483648 ≤ x2 + 1 ∧ x2 + 1 < 2147483648) <|
  rec 1 [x1, x2 + 1] h
noncomputable def g_X11_fraud (n : Nat) : Rk := Nat.rec (motive := fun _ => Rk) (fun _ _ _ => none) (fun _ rec k l h => if k = 0 then b_X11_fraud_0 rec  h else if k = 1 then b_X11_fraud_1 rec (l.getD 0 0) (l.getD 1 0) h else if k = 2 then b_X11_fraud_2 rec (l.getD 0 0) (l.getD 1 0) h else if k = 3 then b_X11_fraud_3 rec (l.getD 0 0) (l.getD 1 0) h else none) n
noncomputable def f_X11_fraud (h : Hp) : Option (Int × Hp) := g_X11_fraud FU 0 [] h
set_option maxHeartbeats 4000000 in
set_option maxRecDepth 100000 in
theorem t_X11_fraud_0 (E : xE) (d : Nat) (rec : Rk) (r : Int × Hp) (hr_24 : ∀ (x1 x2 : Int) (h : Hp), Lay h → rec 1 [x1, x2] h = some r → X E mX11_fraud (d + 4) (0, 0) (0, 0) 24 [some (xr 11 0), some (xi x1), some (xi x2), none] [] h (PoI r)) (h : Hp) (hL : Lay h) (hF : b_X11_fraud_0 rec  h = some r) : X E mX11_fraud (d + 4) (0, 0) (0, 0) 0 [some (xr 11 0), none, none, none] [] h (PoI r) := by
  unfold b_X11_fraud_0 at hF
  refine x_aload_n (i := 0) (b := 1) dX11_fraud_0 rfl rfl rfl ?_
  refine x_getL (j := 0) (t := (5, 0, false)) (b := 4) fk_X11_88 dX11_fraud_1 rfl hL rfl rfl rfl ?_
  obtain ⟨v1, h2, hq, hF⟩ := bd_e hF
  refine x_callV (as := []) (rest := []) (b := 7) (c_X5_sift (d + 1) h _ hL hq) dX11_fraud_4 cw_X11_318 ⟨_, _, rfl, Nat.le_of_ble_eq_true rfl⟩ rfl rfl (Nat.le_of_ble_eq_true rfl) ⟨Nat.le_refl _, Nat.le_refl _⟩ rfl (fun rv hh hp _ => ?_)
  obtain ⟨rfl, rfl, hL⟩ := hp
  refine x_aload_n (i := 0) (b := 8) dX11_fraud_7 rfl rfl rfl ?_
  refine x_getL (j := 0) (t := (5, 0, false)) (b := 11) fk_X11_88 dX11_fraud_8 rfl hL rfl rfl rfl ?_
  refine x_aload_n (i := 0) (b := 12) dX11_fraud_11 rfl rfl rfl ?_
  refine x_getL (j := 0) (t := (10, 0, false)) (b := 15) fk_X11_57 dX11_fraud_12 rfl hL rfl rfl rfl ?_
  refine x_getI (v := gI h2 10 0 0) (b := 18) fk_X11_195 dX11_fraud_15 (by decide) rfl rfl ?_
  obtain ⟨v3, h4, hq, hF⟩ := bd_e hF
  refine x_callV (as := [xi (gI h2 10 0 0)]) (rest := []) (b := 21) (c_X5_firstFrom d (gI h2 10 0 0) h2 _ hL hq) dX11_fraud_18 cw_X11_330 ⟨_, _, rfl, Nat.le_of_ble_eq_true rfl⟩ rfl rfl (Nat.le_of_ble_eq_true rfl) ⟨Nat.le_refl _, Nat.le_refl _⟩ rfl (fun rv hh hp _ => ?_)
  obtain ⟨rfl, rfl, hL⟩ := hp
  refine x_istore_n (i := 1) (b := 22) (ls2 := [some (xr 11 0), some (xi v3), none, none]) dX11_fraud_21 rfl (Nat.le_of_ble_eq_true rfl) rfl rfl ?_
  refine x_iconst (n := 0) (b := 23) dX11_fraud_22 (by decide) rfl ?_
  refine x_istore_n (i := 2) (b := 24) (ls2 := [some (xr 11 0), some (xi v3), some (xi 0), none]) dX11_fraud_23 rfl (Nat.le_of_ble_eq_true rfl) rfl rfl ?_
  exact x_dp (ls2 := [some (xr 11 0), some (xi v3), some (xi 0), none]) ⟨rfl, rfl, rfl, trivial⟩ (hr_24 v3 0 h4 hL hF)
set_option maxHeartbeats 4000000 in
set_option maxRecDepth 100000 in
theorem t_X11_fraud_1 (E : xE) (d : Nat) (rec : Rk) (r : Int × Hp) (hr_83 : ∀ (x2 x3 : Int) (h : Hp), Lay h → rec 2 [x2, x3] h = some r → X E mX11_fraud (d + 4) (0, 0) (0, 0) 83 [some (xr 11 0), none, some (xi x2), some (xi x3)] [] h (PoI r)) (hr_85 : ∀ (x1 x2 : Int) (h : Hp), Lay h → rec 3 [x1, x2] h = some r → X E mX11_fraud (d + 4) (0, 0) (0, 0) 85 [some (xr 11 0), some (xi x1), some (xi x2), none] [] h (PoI r)) (x1 x2 : Int) (h : Hp) (hL : Lay h) (hF : b_X11_fraud_1 rec x1 x2 h = some r) : X E mX11_fraud (d + 4) (0, 0) (0, 0) 24 [some (xr 11 0), some (xi x1), some (xi x2), none] [] h (PoI r) := by
  unfold b_X11_fraud_1 at hF
  refine x_iload_n (i := 2) (b := 25) dX11_fraud_24 rfl rfl rfl ?_
  refine x_aload_n (i := 0) (b := 26) dX11_fraud_25 rfl rfl rfl ?_
  refine x_getL (j := 0) (t := (10, 0, false)) (b := 29) fk_X11_57 dX11_fraud_26 rfl hL rfl rfl rfl ?_
  refine x_getI (v := gI h 10 0 0) (b := 32) fk_X11_195 dX11_fraud_29 (by decide) rfl rfl ?_
  refine x_icmp_ge (tgt := 91) (b := 35) dX11_fraud_32 (by decide) rfl (fun hc => ?_) (fun hc => ?_)
  · replace hF := br_T hc hF
    refine x_iload_n (i := 1) (b := 92) dX11_fraud_91 rfl rfl rfl ?_
    refine x_ireturn dX11_fraud_92 rfl ⟨Nat.le_refl _, Nat.le_refl _⟩ ?_
    cases hF
    exact ⟨rfl, rfl, hL⟩
  · replace hF := br_F hc hF
    refine x_iload_n (i := 2) (b := 36) dX11_fraud_35 rfl rfl rfl ?_
    refine x_bipush (n := 60) (b := 38) dX11_fraud_36 (by decide) rfl ?_
    refine x_icmp_ge (tgt := 91) (b := 41) dX11_fraud_38 (by decide) rfl (fun hc => ?_) (fun hc => ?_)
    · replace hF := br_T hc hF
      refine x_iload_n (i := 1) (b := 92) dX11_fraud_91 rfl rfl rfl ?_
      refine x_ireturn dX11_fraud_92 rfl ⟨Nat.le_refl _, Nat.le_refl _⟩ ?_
      cases hF
      exact ⟨rfl, rfl, hL⟩
    · replace hF := br_F hc hF
      refine x_aload_n (i := 0) (b := 42) dX11_fraud_41 rfl rfl rfl ?_
      refine x_getL (j := 0) (t := (5, 0, false)) (b := 45) fk_X11_88 dX11_fraud_42 rfl hL rfl rfl rfl ?_
      refine x_iload_n (i := 2) (b := 46) dX11_fraud_45 rfl rfl rfl ?_
      refine x_aload_n (i := 0) (b := 47) dX11_fraud_46 rfl rfl rfl ?_
      refine x_getL (j := 0) (t := (3, 0, false)) (b := 50) fk_X11_64 dX11_fraud_47 rfl hL rfl rfl rfl ?_
      refine x_getL (j := 0) (t := (34, 0, true)) (b := 53) fk_X11_257 dX11_fraud_50 rfl hL rfl rfl rfl ?_
      refine x_iload_n (i := 2) (b := 54) dX11_fraud_53 rfl rfl rfl ?_
      obtain ⟨hs, hF⟩ := ck_e hF
      refine x_iald (v := gI h 34 0 x2) (b := 55) ak_34 dX11_fraud_54 hs rfl rfl ?_
      refine x_aload_n (i := 0) (b := 56) dX11_fraud_55 rfl rfl rfl ?_
      refine x_getL (j := 0) (t := (3, 0, false)) (b := 59) fk_X11_64 dX11_fraud_56 rfl hL rfl rfl rfl ?_
      refine x_getL (j := 0) (t := (35, 0, true)) (b := 62) fk_X11_260 dX11_fraud_59 rfl hL rfl rfl rfl ?_
      refine x_iload_n (i := 2) (b := 63) dX11_fraud_62 rfl rfl rfl ?_
      obtain ⟨hs, hF⟩ := ck_e hF
      refine x_iald (v := gI h 35 0 x2) (b := 64) ak_35 dX11_fraud_63 hs rfl rfl ?_
      obtain ⟨v1, h2, hq, hF⟩ := bd_e hF
      refine x_callV (as := [xi x2, xi (gI h 34 0 x2), xi (gI h 35 0 x2)]) (rest := []) (b := 67) (c_X5_firstFalse d x2 (gI h 34 0 x2) (gI h 35 0 x2) h _ hL hq) dX11_fraud_64 cw_X11_324 ⟨_, _, rfl, Nat.le_of_ble_eq_true rfl⟩ rfl rfl (Nat.le_of_ble_eq_true rfl) ⟨Nat.le_refl _, Nat.le_refl _⟩ rfl (fun rv hh hp _ => ?_)
      obtain ⟨rfl, rfl, hL⟩ := hp
      refine x_istore_n (i := 3) (b := 68) (ls2 := [some (xr 11 0), some (xi x1), some (xi x2), some (xi v1)]) dX11_fraud_67 rfl (Nat.le_of_ble_eq_true rfl) rfl rfl ?_
      refine x_iload_n (i := 3) (b := 69) dX11_fraud_68 rfl rfl rfl ?_
      refine x_iconst (n := (-1)) (b := 70) dX11_fraud_69 (by decide) rfl ?_
      refine x_icmp_eq (tgt := 85) (b := 73) dX11_fraud_70 (by decide) rfl (fun hc => ?_) (fun hc => ?_)
      · replace hF := br_T hc hF
        exact x_dp (ls2 := [some (xr 11 0), some (xi x1), some (xi x2), none]) ⟨rfl, rfl, rfl, trivial⟩ (hr_85 x1 x2 h2 hL hF)
      · replace hF := br_F hc hF
        refine x_iload_n (i := 1) (b := 74) dX11_fraud_73 rfl rfl rfl ?_
        refine x_iconst (n := (-1)) (b := 75) dX11_fraud_74 (by decide) rfl ?_
        refine x_icmp_eq (tgt := 83) (b := 78) dX11_fraud_75 (by decide) rfl (fun hc => ?_) (fun hc => ?_)
        · replace hF := br_T hc hF
          exact x_dp (ls2 := [some (xr 11 0), none, some (xi x2), some (xi v1)]) ⟨rfl, rfl, rfl, trivial⟩ (hr_83 x2 v1 h2 hL hF)
        · replace hF := br_F hc hF
          refine x_iload_n (i := 3) (b := 79) dX11_fraud_78 rfl rfl rfl ?_
          refine x_iload_n (i := 1) (b := 80) dX11_fraud_79 rfl rfl rfl ?_
          refine x_icmp_ge (tgt := 85) (b := 83) dX11_fraud_80 (by decide) rfl (fun hc => ?_) (fun hc => ?_)
          · replace hF := br_T hc hF
            exact x_dp (ls2 := [some (xr 11 0), some (xi x1), some (xi x2), none]) ⟨rfl, rfl, rfl, trivial⟩ (hr_85 x1 x2 h2 hL hF)
          · replace hF := br_F hc hF
            exact x_dp (ls2 := [some (xr 11 0), none, some (xi x2), some (xi v1)]) ⟨rfl, rfl, rfl, trivial⟩ (hr_83 x2 v1 h2 hL hF)
set_option maxHeartbeats 4000000 in
set_option maxRecDepth 100000 in
theorem t_X11_fraud_2 (E : xE) (d : Nat) (rec : Rk) (r : Int × Hp) (hr_85 : ∀ (x1 x2 : Int) (h : Hp), Lay h → rec 3 [x1, x2] h = some r → X E mX11_fraud (d + 4) (0, 0) (0, 0) 85 [some (xr 11 0), some (xi x1), some (xi x2), none] [] h (PoI r)) (x2 x3 : Int) (h : Hp) (hL : Lay h) (hF : b_X11_fraud_2 rec x2 x3 h = some r) : X E mX11_fraud (d + 4) (0, 0) (0, 0) 83 [some (xr 11 0), none, some (xi x2), some (xi x3)] [] h (PoI r) := by
  unfold b_X11_fraud_2 at hF
  refine x_iload_n (i := 3) (b := 84) dX11_fraud_83 rfl rfl rfl ?_
  refine x_istore_n (i := 1) (b := 85) (ls2 := [some (xr 11 0), some (xi x3), some (xi x2), some (xi x3)]) dX11_fraud_84 rfl (Nat.le_of_ble_eq_true rfl) rfl rfl ?_
  exact x_dp (ls2 := [some (xr 11 0), some (xi x3), some (xi x2), none]) ⟨rfl, rfl, rfl, trivial⟩ (hr_85 x3 x2 h hL hF)
set_option maxHeartbeats 4000000 in
set_option maxRecDepth 100000 in
theorem t_X11_fraud_3 (E : xE) (d : Nat) (rec : Rk) (r : Int × Hp) (hr_24 : ∀ (x1 x2 : Int) (h : Hp), Lay h → rec 1 [x1, x2] h = some r → X E mX11_fraud (d + 4) (0, 0) (0, 0) 24 [some (xr 11 0), some (xi x1), some (xi x2), none] [] h (PoI r)) (x1 x2 : Int) (h : Hp) (hL : Lay h) (hF : b_X11_fraud_3 rec x1 x2 h = some r) : X E mX11_fraud (d + 4) (0, 0) (0, 0) 85 [some (xr 11 0), some (xi x1), some (xi x2), none] [] h (PoI r) := by
  unfold b_X11_fraud_3 at hF
  obtain ⟨hs, hF⟩ := ck_e hF
  refine x_iinc (i := 2) (b := 88) (ls2 := [some (xr 11 0), some (xi x1), some (xi (x2 + 1)), none]) dX11_fraud_85 rfl (Nat.le_of_ble_eq_true rfl) hs rfl rfl ?_
  refine x_goto (tgt := 24) dX11_fraud_88 (by decide) ?_
  exact x_dp (ls2 := [some (xr 11 0), some (xi x1), some (xi (x2 + 1)), none]) ⟨rfl, rfl, rfl, trivial⟩ (hr_24 x1 (x2 + 1) h hL hF)
set_option maxHeartbeats 4000000 in
set_option maxRecDepth 100000 in
theorem u_X11_fraud (E : xE) (d : Nat) (r : Int × Hp) : ∀ n : Nat, (∀ (h : Hp), Lay h → g_X11_fraud n 0 [] h = some r → X E mX11_fraud (d + 4) (0, 0) (0, 0) 0 [some (xr 11 0), none, none, none] [] h (PoI r)) ∧ (∀ (x1 x2 : Int) (h : Hp), Lay h → g_X11_fraud n 1 [x1, x2] h = some r → X E mX11_fraud (d + 4) (0, 0) (0, 0) 24 [some (xr 11 0), some (xi x1), some (xi x2), none] [] h (PoI r)) ∧ (∀ (x2 x3 : Int) (h : Hp), Lay h → g_X11_fraud n 2 [x2, x3] h = some r → X E mX11_fraud (d + 4) (0, 0) (0, 0) 83 [some (xr 11 0), none, some (xi x2), some (xi x3)] [] h (PoI r)) ∧ (∀ (x1 x2 : Int) (h : Hp), Lay h → g_X11_fraud n 3 [x1, x2] h = some r → X E mX11_fraud (d + 4) (0, 0) (0, 0) 85 [some (xr 11 0), some (xi x1), some (xi x2), none] [] h (PoI r)) := by
  intro n
  induction n with
  | zero => exact ⟨fun _ _ hF => no_e (r := r) hF, fun _ _ _ _ hF => no_e (r := r) hF, fun _ _ _ _ hF => no_e (r := r) hF, fun _ _ _ _ hF => no_e (r := r) hF⟩
  | succ n ih => exact ⟨fun h hL hF => t_X11_fraud_0 E d (g_X11_fraud n) r ih.2.1  h hL hF, fun x1 x2 h hL hF => t_X11_fraud_1 E d (g_X11_fraud n) r ih.2.2.1 ih.2.2.2 x1 x2 h hL hF, fun x2 x3 h hL hF => t_X11_fraud_2 E d (g_X11_fraud n) r ih.2.2.2 x2 x3 h hL hF, fun x1 x2 h hL hF => t_X11_fraud_3 E d (g_X11_fraud n) r ih.2.1 x1 x2 h hL hF⟩
theorem c_X11_fraud (d : Nat) (h : Hp) (r : Int × Hp) (hL : Lay h) (hF : f_X11_fraud  h = some r) : Sp mX11_fraud (d + 4) (0, 0) [xr 11 0] h (PoI r) :=
  sp_of (by decide) rfl (Nat.le_of_ble_eq_true rfl) (ls := [some (xr 11 0), none, none, none]) rfl (fun E _ => (u_X11_fraud E d r FU).1  h hL hF)
theorem dX11_law_0 : decode cX11_law 0 = .ok (.aload_n 0, 1) := by decide +kernel
theorem dX11_law_1 : decode cX11_law 1 = .ok (.getfield 20, 3) := by decide +kernel
theorem dX11_law_4 : decode cX11_law 4 = .ok (.iload_n 1, 1) := by decide +kernel
theorem dX11_law_5 : decode cX11_law 5 = .ok (.invokevirtual 135, 3) := by decide +kernel
theorem dX11_law_8 : decode cX11_law 8 = .ok (.ifCond .eq 27, 3) := by decide +kernel
theorem dX11_law_11 : decode cX11_law 11 = .ok (.iload_n 2, 1) := by decide +kernel
theorem dX11_law_12 : decode cX11_law 12 = .ok (.invokestatic 213, 3) := by decide +kernel
theorem dX11_law_15 : decode cX11_law 15 = .ok (.ifCond .eq 20, 3) := by decide +kernel
theorem dX11_law_18 : decode cX11_law 18 = .ok (.iload_n 3, 1) := by decide +kernel
theorem dX11_law_19 : decode cX11_law 19 = .ok (.ifCond .lt 16, 3) := by decide +kernel
theorem dX11_law_22 : decode cX11_law 22 = .ok (.iload_n 3, 1) := by decide +kernel
theorem dX11_law_23 : decode cX11_law 23 = .ok (.bipush 9, 2) := by decide +kernel
theorem dX11_law_25 : decode cX11_law 25 = .ok (.if_icmp .gt 10, 3) := by decide +kernel
theorem dX11_law_28 : decode cX11_law 28 = .ok (.aload_n 0, 1) := by decide +kernel
theorem dX11_law_29 : decode cX11_law 29 = .ok (.invokevirtual 198, 3) := by decide +kernel
theorem dX11_law_32 : decode cX11_law 32 = .ok (.ifCond .ne 7, 3) := by decide +kernel
theorem dX11_law_35 : decode cX11_law 35 = .ok (.ldc2_w 218, 3) := by decide +kernel
theorem dX11_law_38 : decode cX11_law 38 = .ok (.lreturn, 1) := by decide +kernel
theorem dX11_law_39 : decode cX11_law 39 = .ok (.aload_n 0, 1) := by decide +kernel
theorem dX11_law_40 : decode cX11_law 40 = .ok (.getfield 20, 3) := by decide +kernel
theorem dX11_law_43 : decode cX11_law 43 = .ok (.getfield 122, 3) := by decide +kernel
theorem dX11_law_46 : decode cX11_law 46 = .ok (.aload_n 0, 1) := by decide +kernel
theorem dX11_law_47 : decode cX11_law 47 = .ok (.getfield 57, 3) := by decide +kernel
theorem dX11_law_50 : decode cX11_law 50 = .ok (.getfield 173, 3) := by decide +kernel
theorem dX11_law_53 : decode cX11_law 53 = .ok (.iload_n 2, 1) := by decide +kernel
theorem dX11_law_54 : decode cX11_law 54 = .ok (.invokevirtual 220, 3) := by decide +kernel
theorem dX11_law_57 : decode cX11_law 57 = .ok (.istore 4, 2) := by decide +kernel
theorem dX11_law_59 : decode cX11_law 59 = .ok (.iload 4, 2) := by decide +kernel
theorem dX11_law_61 : decode cX11_law 61 = .ok (.iconst (-1), 1) := by decide +kernel
theorem dX11_law_62 : decode cX11_law 62 = .ok (.if_icmp .ne 9, 3) := by decide +kernel
theorem dX11_law_65 : decode cX11_law 65 = .ok (.ldc2_w 218, 3) := by decide +kernel
theorem dX11_law_68 : decode cX11_law 68 = .ok (.goto 19, 3) := by decide +kernel
theorem dX11_law_71 : decode cX11_law 71 = .ok (.aload_n 0, 1) := by decide +kernel
theorem dX11_law_72 : decode cX11_law 72 = .ok (.getfield 41, 3) := by decide +kernel
theorem dX11_law_75 : decode cX11_law 75 = .ok (.aload_n 0, 1) := by decide +kernel
theorem dX11_law_76 : decode cX11_law 76 = .ok (.getfield 57, 3) := by decide +kernel
theorem dX11_law_79 : decode cX11_law 79 = .ok (.iload_n 1, 1) := by decide +kernel
theorem dX11_law_80 : decode cX11_law 80 = .ok (.iload_n 2, 1) := by decide +kernel
theorem dX11_law_81 : decode cX11_law 81 = .ok (.iload 4, 2) := by decide +kernel
theorem dX11_law_83 : decode cX11_law 83 = .ok (.iload_n 3, 1) := by decide +kernel
theorem dX11_law_84 : decode cX11_law 84 = .ok (.invokevirtual 223, 3) := by decide +kernel
theorem dX11_law_87 : decode cX11_law 87 = .ok (.lreturn, 1) := by decide +kernel
noncomputable def b_X11_law_0 (rec : Rk) (x1 x2 x3 : Int) (h : Hp) : Option (Int × Hp) :=
  rf (gR h 11 0 2) 0 fun j1 =>
  bd (f_X0_isMouth j1 x1 h) fun v2 h3 =>
  if v2 = 0 then (
    some ((-9223372036854775808), h3)
  ) else (
    bd (f_X11_isCourse x2 h3) fun v4 h5 =>
    if v4 = 0 then (
      some ((-9223372036854775808), h5)
    ) else (
      if x3 < 0 then (
        some ((-9223372036854775808), h5)
      ) else (
        if 9 < x3 then (
          some ((-9223372036854775808), h5)
        ) else (
          bd (f_X11_mealIsNext h5) fun v6 h7 =>
          if v6 = 0 then (
            some ((-9223372036854775808), h7)
          ) else (
            rf (gR h7 11 0 2) 0 fun j8 =>
            bd (f_X9_step j8 (gI h7 10 0 1) x2 h7) fun v9 h10 =>
            if v9 = (-1) then (
              some ((-9223372036854775808), h10)
            ) else (
              bd (f_X2_value 0 x1 x2 v9 x3 h10) fun v11 h12 =>
              some (v11, h12)
            )
          )
        )
      )
    )
  )
noncomputable def g_X11_law (n : Nat) : Rk := Nat.rec (motive := fun _ => Rk) (fun _ _ _ => none) (fun _ rec k l h => if k = 0 then b_X11_law_0 rec (l.getD 0 0) (l.getD 1 0) (l.getD 2 0) h else none) n
noncomputable def f_X11_law (x1 x2 x3 : Int) (h : Hp) : Option (Int × Hp) := g_X11_law FU 0 [x1, x2, x3] h
set_option maxHeartbeats 4000000 in
set_option maxRecDepth 100000 in
theorem t_X11_law_0 (E : xE) (d : Nat) (rec : Rk) (r : Int × Hp) (x1 x2 x3 : Int) (h : Hp) (hL : Lay h) (hF : b_X11_law_0 rec x1 x2 x3 h = some r) : X E mX11_law (d + 4) (0, 0) (0, 0) 0 [some (xr 11 0), some (xi x1), some (xi x2), some (xi x3), none] [] h (PoL r) := by
  unfold b_X11_law_0 at hF
  refine x_aload_n (i := 0) (b := 1) dX11_law_0 rfl rfl rfl ?_
  obtain ⟨j1, e_j1, hF⟩ := rf_e hF
  refine x_getR (v := some (0, j1)) (b := 4) fk_X11_20 dX11_law_1 rfl e_j1 rfl ?_
  refine x_iload_n (i := 1) (b := 5) dX11_law_4 rfl rfl rfl ?_
  obtain ⟨v2, h3, hq, hF⟩ := bd_e hF
  refine x_callV (as := [xi x1]) (rest := []) (b := 8) (c_X0_isMouth (d + 1) j1 x1 h _ hL hq) dX11_law_5 cw_X11_135 ⟨_, _, rfl, Nat.le_of_ble_eq_true rfl⟩ rfl rfl (Nat.le_of_ble_eq_true rfl) ⟨Nat.le_refl _, Nat.le_refl _⟩ rfl (fun rv hh hp _ => ?_)
  obtain ⟨rfl, rfl, hL⟩ := hp
  refine x_if_eq (tgt := 35) (b := 11) dX11_law_8 (by decide) rfl (fun hc => ?_) (fun hc => ?_)
  · replace hF := br_T hc hF
    refine x_ldc2 (z := (-9223372036854775808)) (b := 38) dX11_law_35 kw_1140 (by decide) rfl ?_
    refine x_lreturn dX11_law_38 rfl ⟨Nat.le_refl _, Nat.le_refl _⟩ ?_
    cases hF
    exact ⟨rfl, rfl, hL⟩
  · replace hF := br_F hc hF
    refine x_iload_n (i := 2) (b := 12) dX11_law_11 rfl rfl rfl ?_
    obtain ⟨v4, h5, hq, hF⟩ := bd_e hF
    refine x_callS (as := [xi x2]) (rest := []) (b := 15) (c_X11_isCourse (d + 2) x2 h3 _ hL hq) dX11_law_12 cw_X11_213 rfl rfl (Nat.le_of_ble_eq_true rfl) ⟨Nat.le_refl _, Nat.le_refl _⟩ rfl (fun rv hh hp _ => ?_)
    obtain ⟨rfl, rfl, hL⟩ := hp
    refine x_if_eq (tgt := 35) (b := 18) dX11_law_15 (by decide) rfl (fun hc => ?_) (fun hc => ?_)
    · replace hF := br_T hc hF
      refine x_ldc2 (z := (-9223372036854775808)) (b := 38) dX11_law_35 kw_1140 (by decide) rfl ?_
      refine x_lreturn dX11_law_38 rfl ⟨Nat.le_refl _, Nat.le_refl _⟩ ?_
      cases hF
      exact ⟨rfl, rfl, hL⟩
    · replace hF := br_F hc hF
      refine x_iload_n (i := 3) (b := 19) dX11_law_18 rfl rfl rfl ?_
      refine x_if_lt (tgt := 35) (b := 22) dX11_law_19 (by decide) rfl (fun hc => ?_) (fun hc => ?_)
      · replace hF := br_T hc hF
        refine x_ldc2 (z := (-9223372036854775808)) (b := 38) dX11_law_35 kw_1140 (by decide) rfl ?_
        refine x_lreturn dX11_law_38 rfl ⟨Nat.le_refl _, Nat.le_refl _⟩ ?_
        cases hF
        exact ⟨rfl, rfl, hL⟩
      · replace hF := br_F hc hF
        refine x_iload_n (i := 3) (b := 23) dX11_law_22 rfl rfl rfl ?_
        refine x_bipush (n := 9) (b := 25) dX11_law_23 (by decide) rfl ?_
        refine x_icmp_gt (tgt := 35) (b := 28) dX11_law_25 (by decide) rfl (fun hc => ?_) (fun hc => ?_)
        · replace hF := br_T hc hF
          refine x_ldc2 (z := (-9223372036854775808)) (b := 38) dX11_law_35 kw_1140 (by decide) rfl ?_
          refine x_lreturn dX11_law_38 rfl ⟨Nat.le_refl _, Nat.le_refl _⟩ ?_
          cases hF
          exact ⟨rfl, rfl, hL⟩
        · replace hF := br_F hc hF
          refine x_aload_n (i := 0) (b := 29) dX11_law_28 rfl rfl rfl ?_
          obtain ⟨v6, h7, hq, hF⟩ := bd_e hF
          refine x_callV (as := []) (rest := []) (b := 32) (c_X11_mealIsNext (d + 2) h5 _ hL hq) dX11_law_29 cw_X11_198 ⟨_, _, rfl, Nat.le_of_ble_eq_true rfl⟩ rfl rfl (Nat.le_of_ble_eq_true rfl) ⟨Nat.le_refl _, Nat.le_refl _⟩ rfl (fun rv hh hp _ => ?_)
          obtain ⟨rfl, rfl, hL⟩ := hp
          refine x_if_ne (tgt := 39) (b := 35) dX11_law_32 (by decide) rfl (fun hc => ?_) (fun hc => ?_)
          · replace hF := br_F hc hF
            refine x_aload_n (i := 0) (b := 40) dX11_law_39 rfl rfl rfl ?_
            obtain ⟨j8, e_j8, hF⟩ := rf_e hF
            refine x_getR (v := some (0, j8)) (b := 43) fk_X11_20 dX11_law_40 rfl e_j8 rfl ?_
            refine x_getL (j := j8) (t := (9, 0, true)) (b := 46) fk_X11_122 dX11_law_43 rfl hL rfl rfl rfl ?_
            refine x_aload_n (i := 0) (b := 47) dX11_law_46 rfl rfl rfl ?_
            refine x_getL (j := 0) (t := (10, 0, false)) (b := 50) fk_X11_57 dX11_law_47 rfl hL rfl rfl rfl ?_
            refine x_getI (v := gI h7 10 0 1) (b := 53) fk_X11_173 dX11_law_50 (by decide) rfl rfl ?_
            refine x_iload_n (i := 2) (b := 54) dX11_law_53 rfl rfl rfl ?_
            obtain ⟨v9, h10, hq, hF⟩ := bd_e hF
            refine x_callV (as := [xi (gI h7 10 0 1), xi x2]) (rest := []) (b := 57) (c_X9_step (d + 1) j8 (gI h7 10 0 1) x2 h7 _ hL hq) dX11_law_54 cw_X11_220 ⟨_, _, rfl, Nat.le_of_ble_eq_true rfl⟩ rfl rfl (Nat.le_of_ble_eq_true rfl) ⟨Nat.le_refl _, Nat.le_refl _⟩ rfl (fun rv hh hp _ => ?_)
            obtain ⟨rfl, rfl, hL⟩ := hp
            refine x_istore (i := 4) (b := 59) (ls2 := [some (xr 11 0), some (xi x1), some (xi x2), some (xi x3), some (xi v9)]) dX11_law_57 (Nat.le_of_ble_eq_true rfl) rfl rfl ?_
            refine x_iload (i := 4) (b := 61) dX11_law_59 rfl rfl ?_
            refine x_iconst (n := (-1)) (b := 62) dX11_law_61 (by decide) rfl ?_
            refine x_icmp_ne (tgt := 71) (b := 65) dX11_law_62 (by decide) rfl (fun hc => ?_) (fun hc => ?_)
            · replace hF := br_F hc hF
              refine x_aload_n (i := 0) (b := 72) dX11_law_71 rfl rfl rfl ?_
              refine x_getL (j := 0) (t := (2, 0, false)) (b := 75) fk_X11_41 dX11_law_72 rfl hL rfl rfl rfl ?_
              refine x_aload_n (i := 0) (b := 76) dX11_law_75 rfl rfl rfl ?_
              refine x_getL (j := 0) (t := (10, 0, false)) (b := 79) fk_X11_57 dX11_law_76 rfl hL rfl rfl rfl ?_
              refine x_iload_n (i := 1) (b := 80) dX11_law_79 rfl rfl rfl ?_
              refine x_iload_n (i := 2) (b := 81) dX11_law_80 rfl rfl rfl ?_
              refine x_iload (i := 4) (b := 83) dX11_law_81 rfl rfl ?_
              refine x_iload_n (i := 3) (b := 84) dX11_law_83 rfl rfl rfl ?_
              obtain ⟨v11, h12, hq, hF⟩ := bd_e hF
              refine x_callV (as := [xr 10 0, xi x1, xi x2, xi v9, xi x3]) (rest := []) (b := 87) (c_X2_value d 0 x1 x2 v9 x3 h10 _ hL hq) dX11_law_84 cw_X11_223 ⟨_, _, rfl, Nat.le_of_ble_eq_true rfl⟩ rfl rfl (Nat.le_of_ble_eq_true rfl) ⟨Nat.le_refl _, Nat.le_refl _⟩ rfl (fun rv hh hp _ => ?_)
              obtain ⟨rfl, rfl, hL⟩ := hp
              refine x_lreturn dX11_law_87 rfl ⟨Nat.le_refl _, Nat.le_refl _⟩ ?_
              cases hF
              exact ⟨rfl, rfl, hL⟩
            · replace hF := br_T hc hF
              refine x_ldc2 (z := (-9223372036854775808)) (b := 68) dX11_law_65 kw_1140 (by decide) rfl ?_
              refine x_goto (tgt := 87) dX11_law_68 (by decide) ?_
              refine x_lreturn dX11_law_87 rfl ⟨Nat.le_refl _, Nat.le_refl _⟩ ?_
              cases hF
              exact ⟨rfl, rfl, hL⟩
          · replace hF := br_T hc hF
            refine x_ldc2 (z := (-9223372036854775808)) (b := 38) dX11_law_35 kw_1140 (by decide) rfl ?_
            refine x_lreturn dX11_law_38 rfl ⟨Nat.le_refl _, Nat.le_refl _⟩ ?_
            cases hF
            exact ⟨rfl, rfl, hL⟩
set_option maxHeartbeats 4000000 in
set_option maxRecDepth 100000 in
theorem u_X11_law (E : xE) (d : Nat) (r : Int × Hp) : ∀ n : Nat, (∀ (x1 x2 x3 : Int) (h : Hp), Lay h → g_X11_law n 0 [x1, x2, x3] h = some r → X E mX11_law (d + 4) (0, 0) (0, 0) 0 [some (xr 11 0), some (xi x1), some (xi x2), some (xi x3), none] [] h (PoL r)) := by
  intro n
  induction n with
  | zero => exact fun _ _ _ _ _ hF => no_e (r := r) hF
  | succ n ih => exact fun x1 x2 x3 h hL hF => t_X11_law_0 E d (g_X11_law n) r  x1 x2 x3 h hL hF
theorem c_X11_law (d : Nat) (x1 x2 x3 : Int) (h : Hp) (r : Int × Hp) (hL : Lay h) (hF : f_X11_law x1 x2 x3 h = some r) : Sp mX11_law (d + 4) (0, 0) [xr 11 0, xi x1, xi x2, xi x3] h (PoL r) :=
  sp_of (by decide) rfl (Nat.le_of_ble_eq_true rfl) (ls := [some (xr 11 0), some (xi x1), some (xi x2), some (xi x3), none]) rfl (fun E _ => (u_X11_law E d r FU) x1 x2 x3 h hL hF)
theorem dX11_wish_0 : decode cX11_wish 0 = .ok (.aload_n 0, 1) := by decide +kernel
theorem dX11_wish_1 : decode cX11_wish 1 = .ok (.getfield 20, 3) := by decide +kernel
theorem dX11_wish_4 : decode cX11_wish 4 = .ok (.iload_n 1, 1) := by decide +kernel
theorem dX11_wish_5 : decode cX11_wish 5 = .ok (.invokevirtual 135, 3) := by decide +kernel
theorem dX11_wish_8 : decode cX11_wish 8 = .ok (.ifCond .eq 10, 3) := by decide +kernel
theorem dX11_wish_11 : decode cX11_wish 11 = .ok (.aload_n 0, 1) := by decide +kernel
theorem dX11_wish_12 : decode cX11_wish 12 = .ok (.invokevirtual 198, 3) := by decide +kernel
theorem dX11_wish_15 : decode cX11_wish 15 = .ok (.ifCond .ne 5, 3) := by decide +kernel
theorem dX11_wish_18 : decode cX11_wish 18 = .ok (.iconst (-1), 1) := by decide +kernel
theorem dX11_wish_19 : decode cX11_wish 19 = .ok (.ireturn, 1) := by decide +kernel
theorem dX11_wish_20 : decode cX11_wish 20 = .ok (.aload_n 0, 1) := by decide +kernel
theorem dX11_wish_21 : decode cX11_wish 21 = .ok (.getfield 41, 3) := by decide +kernel
theorem dX11_wish_24 : decode cX11_wish 24 = .ok (.aload_n 0, 1) := by decide +kernel
theorem dX11_wish_25 : decode cX11_wish 25 = .ok (.getfield 57, 3) := by decide +kernel
theorem dX11_wish_28 : decode cX11_wish 28 = .ok (.aload_n 0, 1) := by decide +kernel
theorem dX11_wish_29 : decode cX11_wish 29 = .ok (.getfield 57, 3) := by decide +kernel
theorem dX11_wish_32 : decode cX11_wish 32 = .ok (.getfield 161, 3) := by decide +kernel
theorem dX11_wish_35 : decode cX11_wish 35 = .ok (.invokevirtual 202, 3) := by decide +kernel
theorem dX11_wish_38 : decode cX11_wish 38 = .ok (.aload_n 0, 1) := by decide +kernel
theorem dX11_wish_39 : decode cX11_wish 39 = .ok (.getfield 41, 3) := by decide +kernel
theorem dX11_wish_42 : decode cX11_wish 42 = .ok (.getfield 206, 3) := by decide +kernel
theorem dX11_wish_45 : decode cX11_wish 45 = .ok (.iload_n 1, 1) := by decide +kernel
theorem dX11_wish_46 : decode cX11_wish 46 = .ok (.iaload, 1) := by decide +kernel
theorem dX11_wish_47 : decode cX11_wish 47 = .ok (.istore_n 2, 1) := by decide +kernel
theorem dX11_wish_48 : decode cX11_wish 48 = .ok (.iload_n 2, 1) := by decide +kernel
theorem dX11_wish_49 : decode cX11_wish 49 = .ok (.iconst 1, 1) := by decide +kernel
theorem dX11_wish_50 : decode cX11_wish 50 = .ok (.if_icmp .ge 6, 3) := by decide +kernel
theorem dX11_wish_53 : decode cX11_wish 53 = .ok (.bipush (-2), 2) := by decide +kernel
theorem dX11_wish_55 : decode cX11_wish 55 = .ok (.ireturn, 1) := by decide +kernel
theorem dX11_wish_56 : decode cX11_wish 56 = .ok (.aload_n 0, 1) := by decide +kernel
theorem dX11_wish_57 : decode cX11_wish 57 = .ok (.getfield 41, 3) := by decide +kernel
theorem dX11_wish_60 : decode cX11_wish 60 = .ok (.aload_n 0, 1) := by decide +kernel
theorem dX11_wish_61 : decode cX11_wish 61 = .ok (.getfield 57, 3) := by decide +kernel
theorem dX11_wish_64 : decode cX11_wish 64 = .ok (.iload_n 1, 1) := by decide +kernel
theorem dX11_wish_65 : decode cX11_wish 65 = .ok (.iload_n 2, 1) := by decide +kernel
theorem dX11_wish_66 : decode cX11_wish 66 = .ok (.invokevirtual 209, 3) := by decide +kernel
theorem dX11_wish_69 : decode cX11_wish 69 = .ok (.istore_n 3, 1) := by decide +kernel
theorem dX11_wish_70 : decode cX11_wish 70 = .ok (.iload_n 3, 1) := by decide +kernel
theorem dX11_wish_71 : decode cX11_wish 71 = .ok (.iconst (-1), 1) := by decide +kernel
theorem dX11_wish_72 : decode cX11_wish 72 = .ok (.if_icmp .ne 8, 3) := by decide +kernel
theorem dX11_wish_75 : decode cX11_wish 75 = .ok (.bipush (-2), 2) := by decide +kernel
theorem dX11_wish_77 : decode cX11_wish 77 = .ok (.goto 4, 3) := by decide +kernel
theorem dX11_wish_80 : decode cX11_wish 80 = .ok (.iload_n 3, 1) := by decide +kernel
theorem dX11_wish_81 : decode cX11_wish 81 = .ok (.ireturn, 1) := by decide +kernel
noncomputable def b_X11_wish_0 (rec : Rk) (x1 : Int) (h : Hp) : Option (Int × Hp) :=
  rf (gR h 11 0 2) 0 fun j1 =>
  bd (f_X0_isMouth j1 x1 h) fun v2 h3 =>
  if v2 = 0 then (
    some ((-1), h3)
  ) else (
    bd (f_X11_mealIsNext h3) fun v4 h5 =>
    if v4 = 0 then (
      some ((-1), h5)
    ) else (
      bd (f_X2_serve 0 (gI h5 10 0 4) h5) fun v6 h7 =>
      ck (0 ≤ x1 ∧ x1 < 9) <|
      lt (gI h7 29 0 x1) fun z8 =>
      if 1 ≤ z8 then (
        bd (f_X2_wishOf 0 x1 z8 h7) fun v9 h10 =>
        if v9 = (-1) then (
          some ((-2), h10)
        ) else (
          some (v9, h10)
        )
      ) else (
        some ((-2), h7)
      )
    )
  )
noncomputable def g_X11_wish (n : Nat) : Rk := Nat.rec (motive := fun _ => Rk) (fun _ _ _ => none) (fun _ rec k l h => if k = 0 then b_X11_wish_0 rec (l.getD 0 0) h else none) n
noncomputable def f_X11_wish (x1 : Int) (h : Hp) : Option (Int × Hp) := g_X11_wish FU 0 [x1] h
set_option maxHeartbeats 4000000 in
set_option maxRecDepth 100000 in
theorem t_X11_wish_0 (E : xE) (d : Nat) (rec : Rk) (r : Int × Hp) (x1 : Int) (h : Hp) (hL : Lay h) (hF : b_X11_wish_0 rec x1 h = some r) : X E mX11_wish (d + 5) (0, 0) (0, 0) 0 [some (xr 11 0), some (xi x1), none, none] [] h (PoI r) := by
  unfold b_X11_wish_0 at hF
  refine x_aload_n (i := 0) (b := 1) dX11_wish_0 rfl rfl rfl ?_
  obtain ⟨j1, e_j1, hF⟩ := rf_e hF
  refine x_getR (v := some (0, j1)) (b := 4) fk_X11_20 dX11_wish_1 rfl e_j1 rfl ?_
  refine x_iload_n (i := 1) (b := 5) dX11_wish_4 rfl rfl rfl ?_
  obtain ⟨v2, h3, hq, hF⟩ := bd_e hF
  refine x_callV (as := [xi x1]) (rest := []) (b := 8) (c_X0_isMouth (d + 2) j1 x1 h _ hL hq) dX11_wish_5 cw_X11_135 ⟨_, _, rfl, Nat.le_of_ble_eq_true rfl⟩ rfl rfl (Nat.le_of_ble_eq_true rfl) ⟨Nat.le_refl _, Nat.le_refl _⟩ rfl (fun rv hh hp _ => ?_)
  obtain ⟨rfl, rfl, hL⟩ := hp
  refine x_if_eq (tgt := 18) (b := 11) dX11_wish_8 (by decide) rfl (fun hc => ?_) (fun hc => ?_)
  · replace hF := br_T hc hF
    refine x_iconst (n := (-1)) (b := 19) dX11_wish_18 (by decide) rfl ?_
    refine x_ireturn dX11_wish_19 rfl ⟨Nat.le_refl _, Nat.le_refl _⟩ ?_
    cases hF
    exact ⟨rfl, rfl, hL⟩
  · replace hF := br_F hc hF
    refine x_aload_n (i := 0) (b := 12) dX11_wish_11 rfl rfl rfl ?_
    obtain ⟨v4, h5, hq, hF⟩ := bd_e hF
    refine x_callV (as := []) (rest := []) (b := 15) (c_X11_mealIsNext (d + 3) h3 _ hL hq) dX11_wish_12 cw_X11_198 ⟨_, _, rfl, Nat.le_of_ble_eq_true rfl⟩ rfl rfl (Nat.le_of_ble_eq_true rfl) ⟨Nat.le_refl _, Nat.le_refl _⟩ rfl (fun rv hh hp _ => ?_)
    obtain ⟨rfl, rfl, hL⟩ := hp
    refine x_if_ne (tgt := 20) (b := 18) dX11_wish_15 (by decide) rfl (fun hc => ?_) (fun hc => ?_)
    · replace hF := br_F hc hF
      refine x_aload_n (i := 0) (b := 21) dX11_wish_20 rfl rfl rfl ?_
      refine x_getL (j := 0) (t := (2, 0, false)) (b := 24) fk_X11_41 dX11_wish_21 rfl hL rfl rfl rfl ?_
      refine x_aload_n (i := 0) (b := 25) dX11_wish_24 rfl rfl rfl ?_
      refine x_getL (j := 0) (t := (10, 0, false)) (b := 28) fk_X11_57 dX11_wish_25 rfl hL rfl rfl rfl ?_
      refine x_aload_n (i := 0) (b := 29) dX11_wish_28 rfl rfl rfl ?_
      refine x_getL (j := 0) (t := (10, 0, false)) (b := 32) fk_X11_57 dX11_wish_29 rfl hL rfl rfl rfl ?_
      refine x_getI (v := gI h5 10 0 4) (b := 35) fk_X11_161 dX11_wish_32 (by decide) rfl rfl ?_
      obtain ⟨v6, h7, hq, hF⟩ := bd_e hF
      refine x_callV (as := [xr 10 0, xi (gI h5 10 0 4)]) (rest := []) (b := 38) (c_X2_serve d 0 (gI h5 10 0 4) h5 _ hL hq) dX11_wish_35 cw_X11_202 ⟨_, _, rfl, Nat.le_of_ble_eq_true rfl⟩ rfl rfl (Nat.le_of_ble_eq_true rfl) ⟨Nat.le_refl _, Nat.le_refl _⟩ rfl (fun rv hh hp _ => ?_)
      obtain ⟨rfl, rfl, hL⟩ := hp
      refine x_aload_n (i := 0) (b := 39) dX11_wish_38 rfl rfl rfl ?_
      refine x_getL (j := 0) (t := (2, 0, false)) (b := 42) fk_X11_41 dX11_wish_39 rfl hL rfl rfl rfl ?_
      refine x_getL (j := 0) (t := (29, 0, true)) (b := 45) fk_X11_206 dX11_wish_42 rfl hL rfl rfl rfl ?_
      refine x_iload_n (i := 1) (b := 46) dX11_wish_45 rfl rfl rfl ?_
      obtain ⟨hs, hF⟩ := ck_e hF
      refine x_iald (v := gI h7 29 0 x1) (b := 47) ak_29 dX11_wish_46 hs rfl rfl ?_
      obtain ⟨z8, e_z8, hF⟩ := lt_e hF
      refine x_eq (y := z8) e_z8 ?_
      refine x_istore_n (i := 2) (b := 48) (ls2 := [some (xr 11 0), some (xi x1), some (xi z8), none]) dX11_wish_47 rfl (Nat.le_of_ble_eq_true rfl) rfl rfl ?_
      refine x_iload_n (i := 2) (b := 49) dX11_wish_48 rfl rfl rfl ?_
      refine x_iconst (n := 1) (b := 50) dX11_wish_49 (by decide) rfl ?_
      refine x_icmp_ge (tgt := 56) (b := 53) dX11_wish_50 (by decide) rfl (fun hc => ?_) (fun hc => ?_)
      · replace hF := br_T hc hF
        refine x_aload_n (i := 0) (b := 57) dX11_wish_56 rfl rfl rfl ?_
        refine x_getL (j := 0) (t := (2, 0, false)) (b := 60) fk_X11_41 dX11_wish_57 rfl hL rfl rfl rfl ?_
        refine x_aload_n (i := 0) (b := 61) dX11_wish_60 rfl rfl rfl ?_
        refine x_getL (j := 0) (t := (10, 0, false)) (b := 64) fk_X11_57 dX11_wish_61 rfl hL rfl rfl rfl ?_
        refine x_iload_n (i := 1) (b := 65) dX11_wish_64 rfl rfl rfl ?_
        refine x_iload_n (i := 2) (b := 66) dX11_wish_65 rfl rfl rfl ?_
        obtain ⟨v9, h10, hq, hF⟩ := bd_e hF
        refine x_callV (as := [xr 10 0, xi x1, xi z8]) (rest := []) (b := 69) (c_X2_wishOf d 0 x1 z8 h7 _ hL hq) dX11_wish_66 cw_X11_209 ⟨_, _, rfl, Nat.le_of_ble_eq_true rfl⟩ rfl rfl (Nat.le_of_ble_eq_true rfl) ⟨Nat.le_refl _, Nat.le_refl _⟩ rfl (fun rv hh hp _ => ?_)
        obtain ⟨rfl, rfl, hL⟩ := hp
        refine x_istore_n (i := 3) (b := 70) (ls2 := [some (xr 11 0), some (xi x1), some (xi z8), some (xi v9)]) dX11_wish_69 rfl (Nat.le_of_ble_eq_true rfl) rfl rfl ?_
        refine x_iload_n (i := 3) (b := 71) dX11_wish_70 rfl rfl rfl ?_
        refine x_iconst (n := (-1)) (b := 72) dX11_wish_71 (by decide) rfl ?_
        refine x_icmp_ne (tgt := 80) (b := 75) dX11_wish_72 (by decide) rfl (fun hc => ?_) (fun hc => ?_)
        · replace hF := br_F hc hF
          refine x_iload_n (i := 3) (b := 81) dX11_wish_80 rfl rfl rfl ?_
          refine x_ireturn dX11_wish_81 rfl ⟨Nat.le_refl _, Nat.le_refl _⟩ ?_
          cases hF
          exact ⟨rfl, rfl, hL⟩
        · replace hF := br_T hc hF
          refine x_bipush (n := (-2)) (b := 77) dX11_wish_75 (by decide) rfl ?_
          refine x_goto (tgt := 81) dX11_wish_77 (by decide) ?_
          refine x_ireturn dX11_wish_81 rfl ⟨Nat.le_refl _, Nat.le_refl _⟩ ?_
          cases hF
          exact ⟨rfl, rfl, hL⟩
      · replace hF := br_F hc hF
        refine x_bipush (n := (-2)) (b := 55) dX11_wish_53 (by decide) rfl ?_
        refine x_ireturn dX11_wish_55 rfl ⟨Nat.le_refl _, Nat.le_refl _⟩ ?_
        cases hF
        exact ⟨rfl, rfl, hL⟩
    · replace hF := br_T hc hF
      refine x_iconst (n := (-1)) (b := 19) dX11_wish_18 (by decide) rfl ?_
      refine x_ireturn dX11_wish_19 rfl ⟨Nat.le_refl _, Nat.le_refl _⟩ ?_
      cases hF
      exact ⟨rfl, rfl, hL⟩
set_option maxHeartbeats 4000000 in
set_option maxRecDepth 100000 in
theorem u_X11_wish (E : xE) (d : Nat) (r : Int × Hp) : ∀ n : Nat, (∀ (x1 : Int) (h : Hp), Lay h → g_X11_wish n 0 [x1] h = some r → X E mX11_wish (d + 5) (0, 0) (0, 0) 0 [some (xr 11 0), some (xi x1), none, none] [] h (PoI r)) := by
  intro n
  induction n with
  | zero => exact fun _ _ _ hF => no_e (r := r) hF
  | succ n ih => exact fun x1 h hL hF => t_X11_wish_0 E d (g_X11_wish n) r  x1 h hL hF
theorem c_X11_wish (d : Nat) (x1 : Int) (h : Hp) (r : Int × Hp) (hL : Lay h) (hF : f_X11_wish x1 h = some r) : Sp mX11_wish (d + 5) (0, 0) [xr 11 0, xi x1] h (PoI r) :=
  sp_of (by decide) rfl (Nat.le_of_ble_eq_true rfl) (ls := [some (xr 11 0), some (xi x1), none, none]) rfl (fun E _ => (u_X11_wish E d r FU) x1 h hL hF)
theorem dX12_count_0 : decode cX12_count 0 = .ok (.aload_n 0, 1) := by decide +kernel
theorem dX12_count_1 : decode cX12_count 1 = .ok (.iconst 0, 1) := by decide +kernel
theorem dX12_count_2 : decode cX12_count 2 = .ok (.putfield 194, 3) := by decide +kernel
theorem dX12_count_5 : decode cX12_count 5 = .ok (.iconst 0, 1) := by decide +kernel
theorem dX12_count_6 : decode cX12_count 6 = .ok (.istore_n 2, 1) := by decide +kernel
theorem dX12_count_7 : decode cX12_count 7 = .ok (.iload_n 1, 1) := by decide +kernel
theorem dX12_count_8 : decode cX12_count 8 = .ok (.tableswitch 164 0 10 #[60, 67, 74, 82, 90, 97, 105, 112, 117, 122, 127], 60) := by decide +kernel
theorem dX12_count_68 : decode cX12_count 68 = .ok (.aload_n 0, 1) := by decide +kernel
theorem dX12_count_69 : decode cX12_count 69 = .ok (.getfield 13, 3) := by decide +kernel
theorem dX12_count_72 : decode cX12_count 72 = .ok (.iconst 0, 1) := by decide +kernel
theorem dX12_count_73 : decode cX12_count 73 = .ok (.iaload, 1) := by decide +kernel
theorem dX12_count_74 : decode cX12_count 74 = .ok (.ireturn, 1) := by decide +kernel
theorem dX12_count_75 : decode cX12_count 75 = .ok (.aload_n 0, 1) := by decide +kernel
theorem dX12_count_76 : decode cX12_count 76 = .ok (.getfield 13, 3) := by decide +kernel
theorem dX12_count_79 : decode cX12_count 79 = .ok (.iconst 1, 1) := by decide +kernel
theorem dX12_count_80 : decode cX12_count 80 = .ok (.iaload, 1) := by decide +kernel
theorem dX12_count_81 : decode cX12_count 81 = .ok (.ireturn, 1) := by decide +kernel
theorem dX12_count_82 : decode cX12_count 82 = .ok (.aload_n 0, 1) := by decide +kernel
theorem dX12_count_83 : decode cX12_count 83 = .ok (.getfield 13, 3) := by decide +kernel
theorem dX12_count_86 : decode cX12_count 86 = .ok (.bipush 12, 2) := by decide +kernel
theorem dX12_count_88 : decode cX12_count 88 = .ok (.iaload, 1) := by decide +kernel
theorem dX12_count_89 : decode cX12_count 89 = .ok (.ireturn, 1) := by decide +kernel
theorem dX12_count_90 : decode cX12_count 90 = .ok (.aload_n 0, 1) := by decide +kernel
theorem dX12_count_91 : decode cX12_count 91 = .ok (.getfield 13, 3) := by decide +kernel
theorem dX12_count_94 : decode cX12_count 94 = .ok (.bipush 13, 2) := by decide +kernel
theorem dX12_count_96 : decode cX12_count 96 = .ok (.iaload, 1) := by decide +kernel
theorem dX12_count_97 : decode cX12_count 97 = .ok (.ireturn, 1) := by decide +kernel
theorem dX12_count_98 : decode cX12_count 98 = .ok (.aload_n 0, 1) := by decide +kernel
theorem dX12_count_99 : decode cX12_count 99 = .ok (.getfield 13, 3) := by decide +kernel
theorem dX12_count_102 : decode cX12_count 102 = .ok (.iconst 5, 1) := by decide +kernel
theorem dX12_count_103 : decode cX12_count 103 = .ok (.iaload, 1) := by decide +kernel
theorem dX12_count_104 : decode cX12_count 104 = .ok (.ireturn, 1) := by decide +kernel
theorem dX12_count_105 : decode cX12_count 105 = .ok (.aload_n 0, 1) := by decide +kernel
theorem dX12_count_106 : decode cX12_count 106 = .ok (.getfield 13, 3) := by decide +kernel
theorem dX12_count_109 : decode cX12_count 109 = .ok (.bipush 14, 2) := by decide +kernel
theorem dX12_count_111 : decode cX12_count 111 = .ok (.iaload, 1) := by decide +kernel
theorem dX12_count_112 : decode cX12_count 112 = .ok (.ireturn, 1) := by decide +kernel
theorem dX12_count_113 : decode cX12_count 113 = .ok (.aload_n 0, 1) := by decide +kernel
theorem dX12_count_114 : decode cX12_count 114 = .ok (.getfield 87, 3) := by decide +kernel
theorem dX12_count_117 : decode cX12_count 117 = .ok (.iconst 0, 1) := by decide +kernel
theorem dX12_count_118 : decode cX12_count 118 = .ok (.iaload, 1) := by decide +kernel
theorem dX12_count_119 : decode cX12_count 119 = .ok (.ireturn, 1) := by decide +kernel
theorem dX12_count_120 : decode cX12_count 120 = .ok (.aload_n 0, 1) := by decide +kernel
theorem dX12_count_121 : decode cX12_count 121 = .ok (.getfield 364, 3) := by decide +kernel
theorem dX12_count_124 : decode cX12_count 124 = .ok (.ireturn, 1) := by decide +kernel
theorem dX12_count_125 : decode cX12_count 125 = .ok (.aload_n 0, 1) := by decide +kernel
theorem dX12_count_126 : decode cX12_count 126 = .ok (.invokevirtual 499, 3) := by decide +kernel
theorem dX12_count_129 : decode cX12_count 129 = .ok (.ireturn, 1) := by decide +kernel
theorem dX12_count_130 : decode cX12_count 130 = .ok (.aload_n 0, 1) := by decide +kernel
theorem dX12_count_131 : decode cX12_count 131 = .ok (.getfield 371, 3) := by decide +kernel
theorem dX12_count_134 : decode cX12_count 134 = .ok (.ireturn, 1) := by decide +kernel
theorem dX12_count_135 : decode cX12_count 135 = .ok (.aload_n 0, 1) := by decide +kernel
theorem dX12_count_136 : decode cX12_count 136 = .ok (.invokevirtual 455, 3) := by decide +kernel
theorem dX12_count_139 : decode cX12_count 139 = .ok (.iconst 0, 1) := by decide +kernel
theorem dX12_count_140 : decode cX12_count 140 = .ok (.istore_n 3, 1) := by decide +kernel
theorem dX12_count_141 : decode cX12_count 141 = .ok (.iload_n 3, 1) := by decide +kernel
theorem dX12_count_142 : decode cX12_count 142 = .ok (.bipush 9, 2) := by decide +kernel
theorem dX12_count_144 : decode cX12_count 144 = .ok (.if_icmp .ge 26, 3) := by decide +kernel
theorem dX12_count_147 : decode cX12_count 147 = .ok (.iload_n 2, 1) := by decide +kernel
theorem dX12_count_148 : decode cX12_count 148 = .ok (.aload_n 0, 1) := by decide +kernel
theorem dX12_count_149 : decode cX12_count 149 = .ok (.iconst 0, 1) := by decide +kernel
theorem dX12_count_150 : decode cX12_count 150 = .ok (.iload_n 3, 1) := by decide +kernel
theorem dX12_count_151 : decode cX12_count 151 = .ok (.invokevirtual 422, 3) := by decide +kernel
theorem dX12_count_154 : decode cX12_count 154 = .ok (.ifCond .eq 7, 3) := by decide +kernel
theorem dX12_count_157 : decode cX12_count 157 = .ok (.iconst 1, 1) := by decide +kernel
theorem dX12_count_158 : decode cX12_count 158 = .ok (.goto 4, 3) := by decide +kernel
theorem dX12_count_161 : decode cX12_count 161 = .ok (.iconst 0, 1) := by decide +kernel
theorem dX12_count_162 : decode cX12_count 162 = .ok (.iadd, 1) := by decide +kernel
theorem dX12_count_163 : decode cX12_count 163 = .ok (.istore_n 2, 1) := by decide +kernel
theorem dX12_count_164 : decode cX12_count 164 = .ok (.iinc 3 1, 3) := by decide +kernel
theorem dX12_count_167 : decode cX12_count 167 = .ok (.goto (-26), 3) := by decide +kernel
theorem dX12_count_170 : decode cX12_count 170 = .ok (.iload_n 2, 1) := by decide +kernel
theorem dX12_count_171 : decode cX12_count 171 = .ok (.ireturn, 1) := by decide +kernel
theorem dX12_count_172 : decode cX12_count 172 = .ok (.iconst (-1), 1) := by decide +kernel
theorem dX12_count_173 : decode cX12_count 173 = .ok (.ireturn, 1) := by decide +kernel
noncomputable def b_X12_count_0 (rec : Rk) (x1 : Int) (h : Hp) : Option (Int × Hp) :=
  lt (sI h 12 0 0 0) fun h1 =>
  if x1 = 0 then (
    ck (0 ≤ (0 : Int) ∧ (0 : Int) < 30) <|
    some (gI h1 61 0 0, h1)
  ) else (
  if x1 = 1 then (
    ck (0 ≤ (1 : Int) ∧ (1 : Int) < 30) <|
    some (gI h1 61 0 1, h1)
  ) else (
  if x1 = 2 then (
    ck (0 ≤ (12 : Int) ∧ (12 : Int) < 30) <|
    some (gI h1 61 0 12, h1)
  ) else (
  if x1 = 3 then (
    ck (0 ≤ (13 : Int) ∧ (13 : Int) < 30) <|
    some (gI h1 61 0 13, h1)
  ) else (
  if x1 = 4 then (
    ck (0 ≤ (5 : Int) ∧ (5 : Int) < 30) <|
    some (gI h1 61 0 5, h1)
  ) else (
  if x1 = 5 then (
    ck (0 ≤ (14 : Int) ∧ (14 : Int) < 30) <|
    some (gI h1 61 0 14, h1)
  ) else (
  if x1 = 6 then (
    ck (0 ≤ (0 : Int) ∧ (0 : Int) < 23) <|
    some (gI h1 84 0 0, h1)
  ) else (
  if x1 = 7 then (
    some (gI h1 12 0 74, h1)
  ) else (
  if x1 = 8 then (
    bd (f_X12_knownMany h1) fun v2 h3 =>
    some (v2, h3)
  ) else (
  if x1 = 9 then (
    some (gI h1 12 0 54, h1)
  ) else (
  if x1 = 10 then (
    bd (f_X12_plain h1) fun v4 h5 =>
    rec 1 [0, 0] h5
  ) else (
  some ((-1), h1)
  )
  )
  )
  )
  )
  )
  )
  )
  )
  )
  )
noncomputable def b_X12_count_1 (rec : Rk) (x2 x3 : Int) (h : Hp) : Option (Int × Hp) :=
  if 9 ≤ x3 then (
    some (x2, h)
  ) else (
    bd (f_X12_isAboard 0 x3 h) fun v1 h2 =>
    if v1 = 0 then (
      rec 2 [x3, 0, x2] h2
    ) else (
      rec 2 [x3, 1, x2] h2
    )
  )
noncomputable def b_X12_count_2 (rec : Rk) (x3 y0 y1 : Int) (h : Hp) : Option (Int × Hp) :=
  ck (-2147483648 ≤ y1 + y0 ∧ y1 + y0 < 2147483648) <|
  lt (y1 + y0) fun z1 =>
  ck (-2147483648 ≤ x3 + 1 ∧ x3 + 1 < 2147483648) <|
  rec 1 [z1, x3 + 1] h
noncomputable def g_X12_count (n : Nat) : Rk := Nat.rec (motive := fun _ => Rk) (fun _ _ _ => none) (fun _ rec k l h => if k = 0 then b_X12_count_0 rec (l.getD 0 0) h else if k = 1 then b_X12_count_1 rec (l.getD 0 0) (l.getD 1 0) h else if k = 2 then b_X12_count_2 rec (l.getD 0 0) (l.getD 1 0) (l.getD 2 0) h else none) n
noncomputable def f_X12_count (x1 : Int) (h : Hp) : Option (Int × Hp) := g_X12_count FU 0 [x1] h
set_option maxHeartbeats 4000000 in
set_option maxRecDepth 100000 in
theorem t_X12_count_0 (E : xE) (d : Nat) (rec : Rk) (r : Int × Hp) (hr_141 : ∀ (x2 x3 : Int) (h : Hp), Lay h → rec 1 [x2, x3] h = some r → X E mX12_count (d + 3) (0, 0) (0, 0) 141 [some (xr 12 0), none, some (xi x2), some (xi x3)] [] h (PoI r)) (x1 : Int) (h : Hp) (hL : Lay h) (hF : b_X12_count_0 rec x1 h = some r) : X E mX12_count (d + 3) (0, 0) (0, 0) 0 [some (xr 12 0), some (xi x1), none, none] [] h (PoI r) := by
  unfold b_X12_count_0 at hF
  refine x_aload_n (i := 0) (b := 1) dX12_count_0 rfl rfl rfl ?_
  refine x_iconst (n := 0) (b := 2) dX12_count_1 (by decide) rfl ?_
  refine x_putI (b := 5) fk_X12_194 dX12_count_2 rfl rfl 0 rfl ?_
  obtain ⟨h1, e_h1, hF⟩ := lt_e hF
  refine x_hp (h2 := h1) e_h1 ?_
  replace hL : Lay h1 := by rw [← e_h1]; exact hL
  refine x_iconst (n := 0) (b := 6) dX12_count_5 (by decide) rfl ?_
  refine x_istore_n (i := 2) (b := 7) (ls2 := [some (xr 12 0), some (xi x1), some (xi 0), none]) dX12_count_6 rfl (Nat.le_of_ble_eq_true rfl) rfl rfl ?_
  refine x_iload_n (i := 1) (b := 8) dX12_count_7 rfl rfl rfl ?_
  by_cases hw8_0 : x1 = 0
  · replace hF := br_T hw8_0 hF
    refine x_tableIn (tgt := 68) dX12_count_8 0 hw8_0 ⟨by decide, by decide⟩ rfl (by decide) ?_
    refine x_aload_n (i := 0) (b := 69) dX12_count_68 rfl rfl rfl ?_
    refine x_getL (j := 0) (t := (61, 0, true)) (b := 72) fk_X12_13 dX12_count_69 rfl hL rfl rfl rfl ?_
    refine x_iconst (n := 0) (b := 73) dX12_count_72 (by decide) rfl ?_
    obtain ⟨hs, hF⟩ := ck_e hF
    refine x_iald (v := gI h1 61 0 0) (b := 74) ak_61 dX12_count_73 hs rfl rfl ?_
    refine x_ireturn dX12_count_74 rfl ⟨Nat.le_refl _, Nat.le_refl _⟩ ?_
    cases hF
    exact ⟨rfl, rfl, hL⟩
  replace hF := br_F hw8_0 hF
  by_cases hw8_1 : x1 = 1
  · replace hF := br_T hw8_1 hF
    refine x_tableIn (tgt := 75) dX12_count_8 1 hw8_1 ⟨by decide, by decide⟩ rfl (by decide) ?_
    refine x_aload_n (i := 0) (b := 76) dX12_count_75 rfl rfl rfl ?_
    refine x_getL (j := 0) (t := (61, 0, true)) (b := 79) fk_X12_13 dX12_count_76 rfl hL rfl rfl rfl ?_
    refine x_iconst (n := 1) (b := 80) dX12_count_79 (by decide) rfl ?_
    obtain ⟨hs, hF⟩ := ck_e hF
    refine x_iald (v := gI h1 61 0 1) (b := 81) ak_61 dX12_count_80 hs rfl rfl ?_
    refine x_ireturn dX12_count_81 rfl ⟨Nat.le_refl _, Nat.le_refl _⟩ ?_
    cases hF
    exact ⟨rfl, rfl, hL⟩
  replace hF := br_F hw8_1 hF
  by_cases hw8_2 : x1 = 2
  · replace hF := br_T hw8_2 hF
    refine x_tableIn (tgt := 82) dX12_count_8 2 hw8_2 ⟨by decide, by decide⟩ rfl (by decide) ?_
    refine x_aload_n (i := 0) (b := 83) dX12_count_82 rfl rfl rfl ?_
    refine x_getL (j := 0) (t := (61, 0, true)) (b := 86) fk_X12_13 dX12_count_83 rfl hL rfl rfl rfl ?_
    refine x_bipush (n := 12) (b := 88) dX12_count_86 (by decide) rfl ?_
    obtain ⟨hs, hF⟩ := ck_e hF
    refine x_iald (v := gI h1 61 0 12) (b := 89) ak_61 dX12_count_88 hs rfl rfl ?_
    refine x_ireturn dX12_count_89 rfl ⟨Nat.le_refl _, Nat.le_refl _⟩ ?_
    cases hF
    exact ⟨rfl, rfl, hL⟩
  replace hF := br_F hw8_2 hF
  by_cases hw8_3 : x1 = 3
  · replace hF := br_T hw8_3 hF
    refine x_tableIn (tgt := 90) dX12_count_8 3 hw8_3 ⟨by decide, by decide⟩ rfl (by decide) ?_
    refine x_aload_n (i := 0) (b := 91) dX12_count_90 rfl rfl rfl ?_
    refine x_getL (j := 0) (t := (61, 0, true)) (b := 94) fk_X12_13 dX12_count_91 rfl hL rfl rfl rfl ?_
    refine x_bipush (n := 13) (b := 96) dX12_count_94 (by decide) rfl ?_
    obtain ⟨hs, hF⟩ := ck_e hF
    refine x_iald (v := gI h1 61 0 13) (b := 97) ak_61 dX12_count_96 hs rfl rfl ?_
    refine x_ireturn dX12_count_97 rfl ⟨Nat.le_refl _, Nat.le_refl _⟩ ?_
    cases hF
    exact ⟨rfl, rfl, hL⟩
  replace hF := br_F hw8_3 hF
  by_cases hw8_4 : x1 = 4
  · replace hF := br_T hw8_4 hF
    refine x_tableIn (tgt := 98) dX12_count_8 4 hw8_4 ⟨by decide, by decide⟩ rfl (by decide) ?_
    refine x_aload_n (i := 0) (b := 99) dX12_count_98 rfl rfl rfl ?_
    refine x_getL (j := 0) (t := (61, 0, true)) (b := 102) fk_X12_13 dX12_count_99 rfl hL rfl rfl rfl ?_
    refine x_iconst (n := 5) (b := 103) dX12_count_102 (by decide) rfl ?_
    obtain ⟨hs, hF⟩ := ck_e hF
    refine x_iald (v := gI h1 61 0 5) (b := 104) ak_61 dX12_count_103 hs rfl rfl ?_
    refine x_ireturn dX12_count_104 rfl ⟨Nat.le_refl _, Nat.le_refl _⟩ ?_
    cases hF
    exact ⟨rfl, rfl, hL⟩
  replace hF := br_F hw8_4 hF
  by_cases hw8_5 : x1 = 5
  · replace hF := br_T hw8_5 hF
    refine x_tableIn (tgt := 105) dX12_count_8 5 hw8_5 ⟨by decide, by decide⟩ rfl (by decide) ?_
    refine x_aload_n (i := 0) (b := 106) dX12_count_105 rfl rfl rfl ?_
    refine x_getL (j := 0) (t := (61, 0, true)) (b := 109) fk_X12_13 dX12_count_106 rfl hL rfl rfl rfl ?_
    refine x_bipush (n := 14) (b := 111) dX12_count_109 (by decide) rfl ?_
    obtain ⟨hs, hF⟩ := ck_e hF
    refine x_iald (v := gI h1 61 0 14) (b := 112) ak_61 dX12_count_111 hs rfl rfl ?_
    refine x_ireturn dX12_count_112 rfl ⟨Nat.le_refl _, Nat.le_refl _⟩ ?_
    cases hF
    exact ⟨rfl, rfl, hL⟩
  replace hF := br_F hw8_5 hF
  by_cases hw8_6 : x1 = 6
  · replace hF := br_T hw8_6 hF
    refine x_tableIn (tgt := 113) dX12_count_8 6 hw8_6 ⟨by decide, by decide⟩ rfl (by decide) ?_
    refine x_aload_n (i := 0) (b := 114) dX12_count_113 rfl rfl rfl ?_
    refine x_getL (j := 0) (t := (84, 0, true)) (b := 117) fk_X12_87 dX12_count_114 rfl hL rfl rfl rfl ?_
    refine x_iconst (n := 0) (b := 118) dX12_count_117 (by decide) rfl ?_
    obtain ⟨hs, hF⟩ := ck_e hF
    refine x_iald (v := gI h1 84 0 0) (b := 119) ak_84 dX12_count_118 hs rfl rfl ?_
    refine x_ireturn dX12_count_119 rfl ⟨Nat.le_refl _, Nat.le_refl _⟩ ?_
    cases hF
    exact ⟨rfl, rfl, hL⟩
  replace hF := br_F hw8_6 hF
  by_cases hw8_7 : x1 = 7
  · replace hF := br_T hw8_7 hF
    refine x_tableIn (tgt := 120) dX12_count_8 7 hw8_7 ⟨by decide, by decide⟩ rfl (by decide) ?_
    refine x_aload_n (i := 0) (b := 121) dX12_count_120 rfl rfl rfl ?_
    refine x_getI (v := gI h1 12 0 74) (b := 124) fk_X12_364 dX12_count_121 (by decide) rfl rfl ?_
    refine x_ireturn dX12_count_124 rfl ⟨Nat.le_refl _, Nat.le_refl _⟩ ?_
    cases hF
    exact ⟨rfl, rfl, hL⟩
  replace hF := br_F hw8_7 hF
  by_cases hw8_8 : x1 = 8
  · replace hF := br_T hw8_8 hF
    refine x_tableIn (tgt := 125) dX12_count_8 8 hw8_8 ⟨by decide, by decide⟩ rfl (by decide) ?_
    refine x_aload_n (i := 0) (b := 126) dX12_count_125 rfl rfl rfl ?_
    obtain ⟨v2, h3, hq, hF⟩ := bd_e hF
    refine x_callV (as := []) (rest := []) (b := 129) (c_X12_knownMany (d + 1) h1 _ hL hq) dX12_count_126 cw_X12_499 ⟨_, _, rfl, Nat.le_of_ble_eq_true rfl⟩ rfl rfl (Nat.le_of_ble_eq_true rfl) ⟨Nat.le_refl _, Nat.le_refl _⟩ rfl (fun rv hh hp _ => ?_)
    obtain ⟨rfl, rfl, hL⟩ := hp
    refine x_ireturn dX12_count_129 rfl ⟨Nat.le_refl _, Nat.le_refl _⟩ ?_
    cases hF
    exact ⟨rfl, rfl, hL⟩
  replace hF := br_F hw8_8 hF
  by_cases hw8_9 : x1 = 9
  · replace hF := br_T hw8_9 hF
    refine x_tableIn (tgt := 130) dX12_count_8 9 hw8_9 ⟨by decide, by decide⟩ rfl (by decide) ?_
    refine x_aload_n (i := 0) (b := 131) dX12_count_130 rfl rfl rfl ?_
    refine x_getI (v := gI h1 12 0 54) (b := 134) fk_X12_371 dX12_count_131 (by decide) rfl rfl ?_
    refine x_ireturn dX12_count_134 rfl ⟨Nat.le_refl _, Nat.le_refl _⟩ ?_
    cases hF
    exact ⟨rfl, rfl, hL⟩
  replace hF := br_F hw8_9 hF
  by_cases hw8_10 : x1 = 10
  · replace hF := br_T hw8_10 hF
    refine x_tableIn (tgt := 135) dX12_count_8 10 hw8_10 ⟨by decide, by decide⟩ rfl (by decide) ?_
    refine x_aload_n (i := 0) (b := 136) dX12_count_135 rfl rfl rfl ?_
    obtain ⟨v4, h5, hq, hF⟩ := bd_e hF
    refine x_callV (as := []) (rest := []) (b := 139) (c_X12_plain (d + 1) h1 _ hL hq) dX12_count_136 cw_X12_455 ⟨_, _, rfl, Nat.le_of_ble_eq_true rfl⟩ rfl rfl (Nat.le_of_ble_eq_true rfl) ⟨Nat.le_refl _, Nat.le_refl _⟩ rfl (fun rv hh hp _ => ?_)
    obtain ⟨rfl, rfl, hL⟩ := hp
    refine x_iconst (n := 0) (b := 140) dX12_count_139 (by decide) rfl ?_
    refine x_istore_n (i := 3) (b := 141) (ls2 := [some (xr 12 0), some (xi x1), some (xi 0), some (xi 0)]) dX12_count_140 rfl (Nat.le_of_ble_eq_true rfl) rfl rfl ?_
    exact x_dp (ls2 := [some (xr 12 0), none, some (xi 0), some (xi 0)]) ⟨rfl, rfl, rfl, trivial⟩ (hr_141 0 0 h5 hL hF)
  replace hF := br_F hw8_10 hF
  refine x_tableOut (tgt := 172) dX12_count_8 (by omega) (by decide) ?_
  refine x_iconst (n := (-1)) (b := 173) dX12_count_172 (by decide) rfl ?_
  refine x_ireturn dX12_count_173 rfl ⟨Nat.le_refl _, Nat.le_refl _⟩ ?_
  cases hF
  exact ⟨rfl, rfl, hL⟩
set_option maxHeartbeats 4000000 in
set_option maxRecDepth 100000 in
theorem t_X12_count_1 (E : xE) (d : Nat) (rec : Rk) (r : Int × Hp) (hr_162 : ∀ (x3 y0 y1 : Int) (h : Hp), Lay h → rec 2 [x3, y0, y1] h = some r → X E mX12_count (d + 3) (0, 0) (0, 0) 162 [some (xr 12 0), none, none, some (xi x3)] [xi y0, xi y1] h (PoI r)) (x2 x3 : Int) (h : Hp) (hL : Lay h) (hF : b_X12_count_1 rec x2 x3 h = some r) : X E mX12_count (d + 3) (0, 0) (0, 0) 141 [some (xr 12 0), none, some (xi x2), some (xi x3)] [] h (PoI r) := by
  unfold b_X12_count_1 at hF
  refine x_iload_n (i := 3) (b := 142) dX12_count_141 rfl rfl rfl ?_
  refine x_bipush (n := 9) (b := 144) dX12_count_142 (by decide) rfl ?_
  refine x_icmp_ge (tgt := 170) (b := 147) dX12_count_144 (by decide) rfl (fun hc => ?_) (fun hc => ?_)
  · replace hF := br_T hc hF
    refine x_iload_n (i := 2) (b := 171) dX12_count_170 rfl rfl rfl ?_
    refine x_ireturn dX12_count_171 rfl ⟨Nat.le_refl _, Nat.le_refl _⟩ ?_
    cases hF
    exact ⟨rfl, rfl, hL⟩
  · replace hF := br_F hc hF
    refine x_iload_n (i := 2) (b := 148) dX12_count_147 rfl rfl rfl ?_
    refine x_aload_n (i := 0) (b := 149) dX12_count_148 rfl rfl rfl ?_
    refine x_iconst (n := 0) (b := 150) dX12_count_149 (by decide) rfl ?_
    refine x_iload_n (i := 3) (b := 151) dX12_count_150 rfl rfl rfl ?_
    obtain ⟨v1, h2, hq, hF⟩ := bd_e hF
    refine x_callV (as := [xi 0, xi x3]) (rest := [xi x2]) (b := 154) (c_X12_isAboard d 0 x3 h _ hL hq) dX12_count_151 cw_X12_422 ⟨_, _, rfl, Nat.le_of_ble_eq_true rfl⟩ rfl rfl (Nat.le_of_ble_eq_true rfl) ⟨Nat.le_refl _, Nat.le_refl _⟩ rfl (fun rv hh hp _ => ?_)
    obtain ⟨rfl, rfl, hL⟩ := hp
    refine x_if_eq (tgt := 161) (b := 157) dX12_count_154 (by decide) rfl (fun hc => ?_) (fun hc => ?_)
    · replace hF := br_T hc hF
      refine x_iconst (n := 0) (b := 162) dX12_count_161 (by decide) rfl ?_
      exact x_dp (ls2 := [some (xr 12 0), none, none, some (xi x3)]) ⟨rfl, rfl, trivial⟩ (hr_162 x3 0 x2 h2 hL hF)
    · replace hF := br_F hc hF
      refine x_iconst (n := 1) (b := 158) dX12_count_157 (by decide) rfl ?_
      refine x_goto (tgt := 162) dX12_count_158 (by decide) ?_
      exact x_dp (ls2 := [some (xr 12 0), none, none, some (xi x3)]) ⟨rfl, rfl, trivial⟩ (hr_162 x3 1 x2 h2 hL hF)
set_option maxHeartbeats 4000000 in
set_option maxRecDepth 100000 in
theorem t_X12_count_2 (E : xE) (d : Nat) (rec : Rk) (r : Int × Hp) (hr_141 : ∀ (x2 x3 : Int) (h : Hp), Lay h → rec 1 [x2, x3] h = some r → X E mX12_count (d + 3) (0, 0) (0, 0) 141 [some (xr 12 0), none, some (xi x2), some (xi x3)] [] h (PoI r)) (x3 y0 y1 : Int) (h : Hp) (hL : Lay h) (hF : b_X12_count_2 rec x3 y0 y1 h = some r) : X E mX12_count (d + 3) (0, 0) (0, 0) 162 [some (xr 12 0), none, none, some (xi x3)] [xi y0, xi y1] h (PoI r) := by
  unfold b_X12_count_2 at hF
  obtain ⟨hs, hF⟩ := ck_e hF
  refine x_iadd (b := 163) dX12_count_162 hs rfl ?_
  obtain ⟨z1, e_z1, hF⟩ := lt_e hF
  refine x_eq (y := z1) e_z1 ?_
  refine x_istore_n (i := 2) (b := 164) (ls2 := [some (xr 12 0), none, some (xi z1), some (xi x3)]) dX12_count_163 rfl (Nat.le_of_ble_eq_true rfl) rfl rfl ?_
  obtain ⟨hs, hF⟩ := ck_e hF
  refine x_iinc (i := 3) (b := 167) (ls2 := [some (xr 12 0), none, some (xi z1), some (xi (x3 + 1))]) dX12_count_164 rfl (Nat.le_of_ble_eq_true rfl) hs rfl rfl ?_
  refine x_goto (tgt := 141) dX12_count_167 (by decide) ?_
  exact x_dp (ls2 := [some (xr 12 0), none, some (xi z1), some (xi (x3 + 1))]) ⟨rfl, rfl, rfl, trivial⟩ (hr_141 z1 (x3 + 1) h hL hF)
set_option maxHeartbeats 4000000 in
set_option maxRecDepth 100000 in
theorem u_X12_count (E : xE) (d : Nat) (r : Int × Hp) : ∀ n : Nat, (∀ (x1 : Int) (h : Hp), Lay h → g_X12_count n 0 [x1] h = some r → X E mX12_count (d + 3) (0, 0) (0, 0) 0 [some (xr 12 0), some (xi x1), none, none] [] h (PoI r)) ∧ (∀ (x2 x3 : Int) (h : Hp), Lay h → g_X12_count n 1 [x2, x3] h = some r → X E mX12_count (d + 3) (0, 0) (0, 0) 141 [some (xr 12 0), none, some (xi x2), some (xi x3)] [] h (PoI r)) ∧ (∀ (x3 y0 y1 : Int) (h : Hp), Lay h → g_X12_count n 2 [x3, y0, y1] h = some r → X E mX12_count (d + 3) (0, 0) (0, 0) 162 [some (xr 12 0), none, none, some (xi x3)] [xi y0, xi y1] h (PoI r)) := by
  intro n
  induction n with
  | zero => exact ⟨fun _ _ _ hF => no_e (r := r) hF, fun _ _ _ _ hF => no_e (r := r) hF, fun _ _ _ _ _ hF => no_e (r := r) hF⟩
  | succ n ih => exact ⟨fun x1 h hL hF => t_X12_count_0 E d (g_X12_count n) r ih.2.1 x1 h hL hF, fun x2 x3 h hL hF => t_X12_count_1 E d (g_X12_count n) r ih.2.2 x2 x3 h hL hF, fun x3 y0 y1 h hL hF => t_X12_count_2 E d (g_X12_count n) r ih.2.1 x3 y0 y1 h hL hF⟩
theorem c_X12_count (d : Nat) (x1 : Int) (h : Hp) (r : Int × Hp) (hL : Lay h) (hF : f_X12_count x1 h = some r) : Sp mX12_count (d + 3) (0, 0) [xr 12 0, xi x1] h (PoI r) :=
  sp_of (by decide) rfl (Nat.le_of_ble_eq_true rfl) (ls := [some (xr 12 0), some (xi x1), none, none]) rfl (fun E _ => (u_X12_count E d r FU).1 x1 h hL hF)
theorem dX12_law_0 : decode cX12_law 0 = .ok (.aload_n 0, 1) := by decide +kernel
theorem dX12_law_1 : decode cX12_law 1 = .ok (.iconst 0, 1) := by decide +kernel
theorem dX12_law_2 : decode cX12_law 2 = .ok (.putfield 194, 3) := by decide +kernel
theorem dX12_law_5 : decode cX12_law 5 = .ok (.aload_n 0, 1) := by decide +kernel
theorem dX12_law_6 : decode cX12_law 6 = .ok (.iload_n 1, 1) := by decide +kernel
theorem dX12_law_7 : decode cX12_law 7 = .ok (.invokevirtual 452, 3) := by decide +kernel
theorem dX12_law_10 : decode cX12_law 10 = .ok (.istore 4, 2) := by decide +kernel
theorem dX12_law_12 : decode cX12_law 12 = .ok (.iload 4, 2) := by decide +kernel
theorem dX12_law_14 : decode cX12_law 14 = .ok (.iconst (-1), 1) := by decide +kernel
theorem dX12_law_15 : decode cX12_law 15 = .ok (.if_icmp .eq 33, 3) := by decide +kernel
theorem dX12_law_18 : decode cX12_law 18 = .ok (.iload_n 2, 1) := by decide +kernel
theorem dX12_law_19 : decode cX12_law 19 = .ok (.ifCond .lt 29, 3) := by decide +kernel
theorem dX12_law_22 : decode cX12_law 22 = .ok (.iload_n 2, 1) := by decide +kernel
theorem dX12_law_23 : decode cX12_law 23 = .ok (.iconst 3, 1) := by decide +kernel
theorem dX12_law_24 : decode cX12_law 24 = .ok (.if_icmp .gt 24, 3) := by decide +kernel
theorem dX12_law_27 : decode cX12_law 27 = .ok (.iload_n 3, 1) := by decide +kernel
theorem dX12_law_28 : decode cX12_law 28 = .ok (.ifCond .lt 20, 3) := by decide +kernel
theorem dX12_law_31 : decode cX12_law 31 = .ok (.iload_n 3, 1) := by decide +kernel
theorem dX12_law_32 : decode cX12_law 32 = .ok (.bipush 9, 2) := by decide +kernel
theorem dX12_law_34 : decode cX12_law 34 = .ok (.if_icmp .gt 14, 3) := by decide +kernel
theorem dX12_law_37 : decode cX12_law 37 = .ok (.aload_n 0, 1) := by decide +kernel
theorem dX12_law_38 : decode cX12_law 38 = .ok (.getfield 87, 3) := by decide +kernel
theorem dX12_law_41 : decode cX12_law 41 = .ok (.iconst 0, 1) := by decide +kernel
theorem dX12_law_42 : decode cX12_law 42 = .ok (.iaload, 1) := by decide +kernel
theorem dX12_law_43 : decode cX12_law 43 = .ok (.bipush 60, 2) := by decide +kernel
theorem dX12_law_45 : decode cX12_law 45 = .ok (.if_icmp .lt 7, 3) := by decide +kernel
theorem dX12_law_48 : decode cX12_law 48 = .ok (.ldc2_w 460, 3) := by decide +kernel
theorem dX12_law_51 : decode cX12_law 51 = .ok (.lreturn, 1) := by decide +kernel
theorem dX12_law_52 : decode cX12_law 52 = .ok (.aload_n 0, 1) := by decide +kernel
theorem dX12_law_53 : decode cX12_law 53 = .ok (.aload_n 0, 1) := by decide +kernel
theorem dX12_law_54 : decode cX12_law 54 = .ok (.getfield 90, 3) := by decide +kernel
theorem dX12_law_57 : decode cX12_law 57 = .ok (.iconst 0, 1) := by decide +kernel
theorem dX12_law_58 : decode cX12_law 58 = .ok (.iaload, 1) := by decide +kernel
theorem dX12_law_59 : decode cX12_law 59 = .ok (.iload_n 2, 1) := by decide +kernel
theorem dX12_law_60 : decode cX12_law 60 = .ok (.invokevirtual 377, 3) := by decide +kernel
theorem dX12_law_63 : decode cX12_law 63 = .ok (.istore 5, 2) := by decide +kernel
theorem dX12_law_65 : decode cX12_law 65 = .ok (.iload 5, 2) := by decide +kernel
theorem dX12_law_67 : decode cX12_law 67 = .ok (.iconst (-1), 1) := by decide +kernel
theorem dX12_law_68 : decode cX12_law 68 = .ok (.if_icmp .eq 32, 3) := by decide +kernel
theorem dX12_law_71 : decode cX12_law 71 = .ok (.aload_n 0, 1) := by decide +kernel
theorem dX12_law_72 : decode cX12_law 72 = .ok (.iconst 0, 1) := by decide +kernel
theorem dX12_law_73 : decode cX12_law 73 = .ok (.iload 4, 2) := by decide +kernel
theorem dX12_law_75 : decode cX12_law 75 = .ok (.iload_n 2, 1) := by decide +kernel
theorem dX12_law_76 : decode cX12_law 76 = .ok (.iload 5, 2) := by decide +kernel
theorem dX12_law_78 : decode cX12_law 78 = .ok (.iload_n 3, 1) := by decide +kernel
theorem dX12_law_79 : decode cX12_law 79 = .ok (.aload_n 0, 1) := by decide +kernel
theorem dX12_law_80 : decode cX12_law 80 = .ok (.getfield 93, 3) := by decide +kernel
theorem dX12_law_83 : decode cX12_law 83 = .ok (.iconst 0, 1) := by decide +kernel
theorem dX12_law_84 : decode cX12_law 84 = .ok (.iaload, 1) := by decide +kernel
theorem dX12_law_85 : decode cX12_law 85 = .ok (.invokevirtual 415, 3) := by decide +kernel
theorem dX12_law_88 : decode cX12_law 88 = .ok (.ifCond .eq 12, 3) := by decide +kernel
theorem dX12_law_91 : decode cX12_law 91 = .ok (.aload_n 0, 1) := by decide +kernel
theorem dX12_law_92 : decode cX12_law 92 = .ok (.getfield 139, 3) := by decide +kernel
theorem dX12_law_95 : decode cX12_law 95 = .ok (.iconst 0, 1) := by decide +kernel
theorem dX12_law_96 : decode cX12_law 96 = .ok (.laload, 1) := by decide +kernel
theorem dX12_law_97 : decode cX12_law 97 = .ok (.goto 6, 3) := by decide +kernel
theorem dX12_law_100 : decode cX12_law 100 = .ok (.ldc2_w 460, 3) := by decide +kernel
theorem dX12_law_103 : decode cX12_law 103 = .ok (.lreturn, 1) := by decide +kernel
noncomputable def b_X12_law_0 (rec : Rk) (x1 x2 x3 : Int) (h : Hp) : Option (Int × Hp) :=
  lt (sI h 12 0 0 0) fun h1 =>
  bd (f_X12_slot x1 h1) fun v2 h3 =>
  if v2 = (-1) then (
    some ((-9223372036854775808), h3)
  ) else (
    if x2 < 0 then (
      some ((-9223372036854775808), h3)
    ) else (
      if 3 < x2 then (
        some ((-9223372036854775808), h3)
      ) else (
        if x3 < 0 then (
          some ((-9223372036854775808), h3)
        ) else (
          if 9 < x3 then (
            some ((-9223372036854775808), h3)
          ) else (
            ck (0 ≤ (0 : Int) ∧ (0 : Int) < 23) <|
            if (gI h3 84 0 0) < 60 then (
              ck (0 ≤ (0 : Int) ∧ (0 : Int) < 23) <|
              bd (f_X12_leads (gI h3 85 0 0) x2 h3) fun v4 h5 =>
              if v4 = (-1) then (
                some ((-9223372036854775808), h5)
              ) else (
                ck (0 ≤ (0 : Int) ∧ (0 : Int) < 23) <|
                bd (f_X12_says 0 v2 x2 v4 x3 (gI h5 86 0 0) h5) fun v6 h7 =>
                if v6 = 0 then (
                  some ((-9223372036854775808), h7)
                ) else (
                  ck (0 ≤ (0 : Int) ∧ (0 : Int) < 64) <|
                  some (gI h7 99 0 0, h7)
                )
              )
            ) else (
              some ((-9223372036854775808), h3)
            )
          )
        )
      )
    )
  )
noncomputable def g_X12_law (n : Nat) : Rk := Nat.rec (motive := fun _ => Rk) (fun _ _ _ => none) (fun _ rec k l h => if k = 0 then b_X12_law_0 rec (l.getD 0 0) (l.getD 1 0) (l.getD 2 0) h else none) n
noncomputable def f_X12_law (x1 x2 x3 : Int) (h : Hp) : Option (Int × Hp) := g_X12_law FU 0 [x1, x2, x3] h
set_option maxHeartbeats 4000000 in
set_option maxRecDepth 100000 in
theorem t_X12_law_0 (E : xE) (d : Nat) (rec : Rk) (r : Int × Hp) (x1 x2 x3 : Int) (h : Hp) (hL : Lay h) (hF : b_X12_law_0 rec x1 x2 x3 h = some r) : X E mX12_law (d + 5) (0, 0) (0, 0) 0 [some (xr 12 0), some (xi x1), some (xi x2), some (xi x3), none, none] [] h (PoL r) := by
  unfold b_X12_law_0 at hF
  refine x_aload_n (i := 0) (b := 1) dX12_law_0 rfl rfl rfl ?_
  refine x_iconst (n := 0) (b := 2) dX12_law_1 (by decide) rfl ?_
  refine x_putI (b := 5) fk_X12_194 dX12_law_2 rfl rfl 0 rfl ?_
  obtain ⟨h1, e_h1, hF⟩ := lt_e hF
  refine x_hp (h2 := h1) e_h1 ?_
  replace hL : Lay h1 := by rw [← e_h1]; exact hL
  refine x_aload_n (i := 0) (b := 6) dX12_law_5 rfl rfl rfl ?_
  refine x_iload_n (i := 1) (b := 7) dX12_law_6 rfl rfl rfl ?_
  obtain ⟨v2, h3, hq, hF⟩ := bd_e hF
  refine x_callV (as := [xi x1]) (rest := []) (b := 10) (c_X12_slot (d + 3) x1 h1 _ hL hq) dX12_law_7 cw_X12_452 ⟨_, _, rfl, Nat.le_of_ble_eq_true rfl⟩ rfl rfl (Nat.le_of_ble_eq_true rfl) ⟨Nat.le_refl _, Nat.le_refl _⟩ rfl (fun rv hh hp _ => ?_)
  obtain ⟨rfl, rfl, hL⟩ := hp
  refine x_istore (i := 4) (b := 12) (ls2 := [some (xr 12 0), some (xi x1), some (xi x2), some (xi x3), some (xi v2), none]) dX12_law_10 (Nat.le_of_ble_eq_true rfl) rfl rfl ?_
  refine x_iload (i := 4) (b := 14) dX12_law_12 rfl rfl ?_
  refine x_iconst (n := (-1)) (b := 15) dX12_law_14 (by decide) rfl ?_
  refine x_icmp_eq (tgt := 48) (b := 18) dX12_law_15 (by decide) rfl (fun hc => ?_) (fun hc => ?_)
  · replace hF := br_T hc hF
    refine x_ldc2 (z := (-9223372036854775808)) (b := 51) dX12_law_48 kw_1996 (by decide) rfl ?_
    refine x_lreturn dX12_law_51 rfl ⟨Nat.le_refl _, Nat.le_refl _⟩ ?_
    cases hF
    exact ⟨rfl, rfl, hL⟩
  · replace hF := br_F hc hF
    refine x_iload_n (i := 2) (b := 19) dX12_law_18 rfl rfl rfl ?_
    refine x_if_lt (tgt := 48) (b := 22) dX12_law_19 (by decide) rfl (fun hc => ?_) (fun hc => ?_)
    · replace hF := br_T hc hF
      refine x_ldc2 (z := (-9223372036854775808)) (b := 51) dX12_law_48 kw_1996 (by decide) rfl ?_
      refine x_lreturn dX12_law_51 rfl ⟨Nat.le_refl _, Nat.le_refl _⟩ ?_
      cases hF
      exact ⟨rfl, rfl, hL⟩
    · replace hF := br_F hc hF
      refine x_iload_n (i := 2) (b := 23) dX12_law_22 rfl rfl rfl ?_
      refine x_iconst (n := 3) (b := 24) dX12_law_23 (by decide) rfl ?_
      refine x_icmp_gt (tgt := 48) (b := 27) dX12_law_24 (by decide) rfl (fun hc => ?_) (fun hc => ?_)
      · replace hF := br_T hc hF
        refine x_ldc2 (z := (-9223372036854775808)) (b := 51) dX12_law_48 kw_1996 (by decide) rfl ?_
        refine x_lreturn dX12_law_51 rfl ⟨Nat.le_refl _, Nat.le_refl _⟩ ?_
        cases hF
        exact ⟨rfl, rfl, hL⟩
      · replace hF := br_F hc hF
        refine x_iload_n (i := 3) (b := 28) dX12_law_27 rfl rfl rfl ?_
        refine x_if_lt (tgt := 48) (b := 31) dX12_law_28 (by decide) rfl (fun hc => ?_) (fun hc => ?_)
        · replace hF := br_T hc hF
          refine x_ldc2 (z := (-9223372036854775808)) (b := 51) dX12_law_48 kw_1996 (by decide) rfl ?_
          refine x_lreturn dX12_law_51 rfl ⟨Nat.le_refl _, Nat.le_refl _⟩ ?_
          cases hF
          exact ⟨rfl, rfl, hL⟩
        · replace hF := br_F hc hF
          refine x_iload_n (i := 3) (b := 32) dX12_law_31 rfl rfl rfl ?_
          refine x_bipush (n := 9) (b := 34) dX12_law_32 (by decide) rfl ?_
          refine x_icmp_gt (tgt := 48) (b := 37) dX12_law_34 (by decide) rfl (fun hc => ?_) (fun hc => ?_)
          · replace hF := br_T hc hF
            refine x_ldc2 (z := (-9223372036854775808)) (b := 51) dX12_law_48 kw_1996 (by decide) rfl ?_
            refine x_lreturn dX12_law_51 rfl ⟨Nat.le_refl _, Nat.le_refl _⟩ ?_
            cases hF
            exact ⟨rfl, rfl, hL⟩
          · replace hF := br_F hc hF
            refine x_aload_n (i := 0) (b := 38) dX12_law_37 rfl rfl rfl ?_
            refine x_getL (j := 0) (t := (84, 0, true)) (b := 41) fk_X12_87 dX12_law_38 rfl hL rfl rfl rfl ?_
            refine x_iconst (n := 0) (b := 42) dX12_law_41 (by decide) rfl ?_
            obtain ⟨hs, hF⟩ := ck_e hF
            refine x_iald (v := gI h3 84 0 0) (b := 43) ak_84 dX12_law_42 hs rfl rfl ?_
            refine x_bipush (n := 60) (b := 45) dX12_law_43 (by decide) rfl ?_
            refine x_icmp_lt (tgt := 52) (b := 48) dX12_law_45 (by decide) rfl (fun hc => ?_) (fun hc => ?_)
            · replace hF := br_T hc hF
              refine x_aload_n (i := 0) (b := 53) dX12_law_52 rfl rfl rfl ?_
              refine x_aload_n (i := 0) (b := 54) dX12_law_53 rfl rfl rfl ?_
              refine x_getL (j := 0) (t := (85, 0, true)) (b := 57) fk_X12_90 dX12_law_54 rfl hL rfl rfl rfl ?_
              refine x_iconst (n := 0) (b := 58) dX12_law_57 (by decide) rfl ?_
              obtain ⟨hs, hF⟩ := ck_e hF
              refine x_iald (v := gI h3 85 0 0) (b := 59) ak_85 dX12_law_58 hs rfl rfl ?_
              refine x_iload_n (i := 2) (b := 60) dX12_law_59 rfl rfl rfl ?_
              obtain ⟨v4, h5, hq, hF⟩ := bd_e hF
              refine x_callV (as := [xi (gI h3 85 0 0), xi x2]) (rest := []) (b := 63) (c_X12_leads (d + 3) (gI h3 85 0 0) x2 h3 _ hL hq) dX12_law_60 cw_X12_377 ⟨_, _, rfl, Nat.le_of_ble_eq_true rfl⟩ rfl rfl (Nat.le_of_ble_eq_true rfl) ⟨Nat.le_refl _, Nat.le_refl _⟩ rfl (fun rv hh hp _ => ?_)
              obtain ⟨rfl, rfl, hL⟩ := hp
              refine x_istore (i := 5) (b := 65) (ls2 := [some (xr 12 0), some (xi x1), some (xi x2), some (xi x3), some (xi v2), some (xi v4)]) dX12_law_63 (Nat.le_of_ble_eq_true rfl) rfl rfl ?_
              refine x_iload (i := 5) (b := 67) dX12_law_65 rfl rfl ?_
              refine x_iconst (n := (-1)) (b := 68) dX12_law_67 (by decide) rfl ?_
              refine x_icmp_eq (tgt := 100) (b := 71) dX12_law_68 (by decide) rfl (fun hc => ?_) (fun hc => ?_)
              · replace hF := br_T hc hF
                refine x_ldc2 (z := (-9223372036854775808)) (b := 103) dX12_law_100 kw_1996 (by decide) rfl ?_
                refine x_lreturn dX12_law_103 rfl ⟨Nat.le_refl _, Nat.le_refl _⟩ ?_
                cases hF
                exact ⟨rfl, rfl, hL⟩
              · replace hF := br_F hc hF
                refine x_aload_n (i := 0) (b := 72) dX12_law_71 rfl rfl rfl ?_
                refine x_iconst (n := 0) (b := 73) dX12_law_72 (by decide) rfl ?_
                refine x_iload (i := 4) (b := 75) dX12_law_73 rfl rfl ?_
                refine x_iload_n (i := 2) (b := 76) dX12_law_75 rfl rfl rfl ?_
                refine x_iload (i := 5) (b := 78) dX12_law_76 rfl rfl ?_
                refine x_iload_n (i := 3) (b := 79) dX12_law_78 rfl rfl rfl ?_
                refine x_aload_n (i := 0) (b := 80) dX12_law_79 rfl rfl rfl ?_
                refine x_getL (j := 0) (t := (86, 0, true)) (b := 83) fk_X12_93 dX12_law_80 rfl hL rfl rfl rfl ?_
                refine x_iconst (n := 0) (b := 84) dX12_law_83 (by decide) rfl ?_
                obtain ⟨hs, hF⟩ := ck_e hF
                refine x_iald (v := gI h5 86 0 0) (b := 85) ak_86 dX12_law_84 hs rfl rfl ?_
                obtain ⟨v6, h7, hq, hF⟩ := bd_e hF
                refine x_callV (as := [xi 0, xi v2, xi x2, xi v4, xi x3, xi (gI h5 86 0 0)]) (rest := []) (b := 88) (c_X12_says d 0 v2 x2 v4 x3 (gI h5 86 0 0) h5 _ hL hq) dX12_law_85 cw_X12_415 ⟨_, _, rfl, Nat.le_of_ble_eq_true rfl⟩ rfl rfl (Nat.le_of_ble_eq_true rfl) ⟨Nat.le_refl _, Nat.le_refl _⟩ rfl (fun rv hh hp _ => ?_)
                obtain ⟨rfl, rfl, hL⟩ := hp
                refine x_if_eq (tgt := 100) (b := 91) dX12_law_88 (by decide) rfl (fun hc => ?_) (fun hc => ?_)
                · replace hF := br_T hc hF
                  refine x_ldc2 (z := (-9223372036854775808)) (b := 103) dX12_law_100 kw_1996 (by decide) rfl ?_
                  refine x_lreturn dX12_law_103 rfl ⟨Nat.le_refl _, Nat.le_refl _⟩ ?_
                  cases hF
                  exact ⟨rfl, rfl, hL⟩
                · replace hF := br_F hc hF
                  refine x_aload_n (i := 0) (b := 92) dX12_law_91 rfl rfl rfl ?_
                  refine x_getL (j := 0) (t := (99, 0, true)) (b := 95) fk_X12_139 dX12_law_92 rfl hL rfl rfl rfl ?_
                  refine x_iconst (n := 0) (b := 96) dX12_law_95 (by decide) rfl ?_
                  obtain ⟨hs, hF⟩ := ck_e hF
                  refine x_lald (v := gI h7 99 0 0) (b := 97) ak_99 dX12_law_96 hs rfl rfl ?_
                  refine x_goto (tgt := 103) dX12_law_97 (by decide) ?_
                  refine x_lreturn dX12_law_103 rfl ⟨Nat.le_refl _, Nat.le_refl _⟩ ?_
                  cases hF
                  exact ⟨rfl, rfl, hL⟩
            · replace hF := br_F hc hF
              refine x_ldc2 (z := (-9223372036854775808)) (b := 51) dX12_law_48 kw_1996 (by decide) rfl ?_
              refine x_lreturn dX12_law_51 rfl ⟨Nat.le_refl _, Nat.le_refl _⟩ ?_
              cases hF
              exact ⟨rfl, rfl, hL⟩
set_option maxHeartbeats 4000000 in
set_option maxRecDepth 100000 in
theorem u_X12_law (E : xE) (d : Nat) (r : Int × Hp) : ∀ n : Nat, (∀ (x1 x2 x3 : Int) (h : Hp), Lay h → g_X12_law n 0 [x1, x2, x3] h = some r → X E mX12_law (d + 5) (0, 0) (0, 0) 0 [some (xr 12 0), some (xi x1), some (xi x2), some (xi x3), none, none] [] h (PoL r)) := by
  intro n
  induction n with
  | zero => exact fun _ _ _ _ _ hF => no_e (r := r) hF
  | succ n ih => exact fun x1 x2 x3 h hL hF => t_X12_law_0 E d (g_X12_law n) r  x1 x2 x3 h hL hF
theorem c_X12_law (d : Nat) (x1 x2 x3 : Int) (h : Hp) (r : Int × Hp) (hL : Lay h) (hF : f_X12_law x1 x2 x3 h = some r) : Sp mX12_law (d + 5) (0, 0) [xr 12 0, xi x1, xi x2, xi x3] h (PoL r) :=
  sp_of (by decide) rfl (Nat.le_of_ble_eq_true rfl) (ls := [some (xr 12 0), some (xi x1), some (xi x2), some (xi x3), none, none]) rfl (fun E _ => (u_X12_law E d r FU) x1 x2 x3 h hL hF)
theorem dX12_sits_0 : decode cX12_sits 0 = .ok (.aload_n 0, 1) := by decide +kernel
theorem dX12_sits_1 : decode cX12_sits 1 = .ok (.getfield 93, 3) := by decide +kernel
theorem dX12_sits_4 : decode cX12_sits 4 = .ok (.iload_n 1, 1) := by decide +kernel
theorem dX12_sits_5 : decode cX12_sits 5 = .ok (.iaload, 1) := by decide +kernel
theorem dX12_sits_6 : decode cX12_sits 6 = .ok (.istore_n 2, 1) := by decide +kernel
theorem dX12_sits_7 : decode cX12_sits 7 = .ok (.aload_n 0, 1) := by decide +kernel
theorem dX12_sits_8 : decode cX12_sits 8 = .ok (.iconst 0, 1) := by decide +kernel
theorem dX12_sits_9 : decode cX12_sits 9 = .ok (.putfield 419, 3) := by decide +kernel
theorem dX12_sits_12 : decode cX12_sits 12 = .ok (.iconst 0, 1) := by decide +kernel
theorem dX12_sits_13 : decode cX12_sits 13 = .ok (.istore_n 3, 1) := by decide +kernel
theorem dX12_sits_14 : decode cX12_sits 14 = .ok (.iload_n 3, 1) := by decide +kernel
theorem dX12_sits_15 : decode cX12_sits 15 = .ok (.iconst 4, 1) := by decide +kernel
theorem dX12_sits_16 : decode cX12_sits 16 = .ok (.if_icmp .ge 16, 3) := by decide +kernel
theorem dX12_sits_19 : decode cX12_sits 19 = .ok (.aload_n 0, 1) := by decide +kernel
theorem dX12_sits_20 : decode cX12_sits 20 = .ok (.getfield 148, 3) := by decide +kernel
theorem dX12_sits_23 : decode cX12_sits 23 = .ok (.iload_n 3, 1) := by decide +kernel
theorem dX12_sits_24 : decode cX12_sits 24 = .ok (.iconst 0, 1) := by decide +kernel
theorem dX12_sits_25 : decode cX12_sits 25 = .ok (.iastore, 1) := by decide +kernel
theorem dX12_sits_26 : decode cX12_sits 26 = .ok (.iinc 3 1, 3) := by decide +kernel
theorem dX12_sits_29 : decode cX12_sits 29 = .ok (.goto (-15), 3) := by decide +kernel
theorem dX12_sits_32 : decode cX12_sits 32 = .ok (.iconst 0, 1) := by decide +kernel
theorem dX12_sits_33 : decode cX12_sits 33 = .ok (.istore_n 3, 1) := by decide +kernel
theorem dX12_sits_34 : decode cX12_sits 34 = .ok (.iload_n 3, 1) := by decide +kernel
theorem dX12_sits_35 : decode cX12_sits 35 = .ok (.bipush 9, 2) := by decide +kernel
theorem dX12_sits_37 : decode cX12_sits 37 = .ok (.if_icmp .ge 101, 3) := by decide +kernel
theorem dX12_sits_40 : decode cX12_sits 40 = .ok (.aload_n 0, 1) := by decide +kernel
theorem dX12_sits_41 : decode cX12_sits 41 = .ok (.getfield 142, 3) := by decide +kernel
theorem dX12_sits_44 : decode cX12_sits 44 = .ok (.iload_n 3, 1) := by decide +kernel
theorem dX12_sits_45 : decode cX12_sits 45 = .ok (.iconst 0, 1) := by decide +kernel
theorem dX12_sits_46 : decode cX12_sits 46 = .ok (.iastore, 1) := by decide +kernel
theorem dX12_sits_47 : decode cX12_sits 47 = .ok (.aload_n 0, 1) := by decide +kernel
theorem dX12_sits_48 : decode cX12_sits 48 = .ok (.getfield 145, 3) := by decide +kernel
theorem dX12_sits_51 : decode cX12_sits 51 = .ok (.iload_n 3, 1) := by decide +kernel
theorem dX12_sits_52 : decode cX12_sits 52 = .ok (.iconst (-1), 1) := by decide +kernel
theorem dX12_sits_53 : decode cX12_sits 53 = .ok (.iastore, 1) := by decide +kernel
theorem dX12_sits_54 : decode cX12_sits 54 = .ok (.aload_n 0, 1) := by decide +kernel
theorem dX12_sits_55 : decode cX12_sits 55 = .ok (.iload_n 1, 1) := by decide +kernel
theorem dX12_sits_56 : decode cX12_sits 56 = .ok (.iload_n 3, 1) := by decide +kernel
theorem dX12_sits_57 : decode cX12_sits 57 = .ok (.invokevirtual 422, 3) := by decide +kernel
theorem dX12_sits_60 : decode cX12_sits 60 = .ok (.ifCond .eq 72, 3) := by decide +kernel
theorem dX12_sits_63 : decode cX12_sits 63 = .ok (.iload_n 3, 1) := by decide +kernel
theorem dX12_sits_64 : decode cX12_sits 64 = .ok (.iconst 5, 1) := by decide +kernel
theorem dX12_sits_65 : decode cX12_sits 65 = .ok (.if_icmp .ge 19, 3) := by decide +kernel
theorem dX12_sits_68 : decode cX12_sits 68 = .ok (.aload_n 0, 1) := by decide +kernel
theorem dX12_sits_69 : decode cX12_sits 69 = .ok (.getfield 102, 3) := by decide +kernel
theorem dX12_sits_72 : decode cX12_sits 72 = .ok (.iload_n 1, 1) := by decide +kernel
theorem dX12_sits_73 : decode cX12_sits 73 = .ok (.iaload, 1) := by decide +kernel
theorem dX12_sits_74 : decode cX12_sits 74 = .ok (.iload_n 3, 1) := by decide +kernel
theorem dX12_sits_75 : decode cX12_sits 75 = .ok (.ishr, 1) := by decide +kernel
theorem dX12_sits_76 : decode cX12_sits 76 = .ok (.iconst 1, 1) := by decide +kernel
theorem dX12_sits_77 : decode cX12_sits 77 = .ok (.iand, 1) := by decide +kernel
theorem dX12_sits_78 : decode cX12_sits 78 = .ok (.ifCond .ne 6, 3) := by decide +kernel
theorem dX12_sits_81 : decode cX12_sits 81 = .ok (.goto 51, 3) := by decide +kernel
theorem dX12_sits_84 : decode cX12_sits 84 = .ok (.aload_n 0, 1) := by decide +kernel
theorem dX12_sits_85 : decode cX12_sits 85 = .ok (.getfield 142, 3) := by decide +kernel
theorem dX12_sits_88 : decode cX12_sits 88 = .ok (.iload_n 3, 1) := by decide +kernel
theorem dX12_sits_89 : decode cX12_sits 89 = .ok (.iload_n 2, 1) := by decide +kernel
theorem dX12_sits_90 : decode cX12_sits 90 = .ok (.aload_n 0, 1) := by decide +kernel
theorem dX12_sits_91 : decode cX12_sits 91 = .ok (.iload_n 1, 1) := by decide +kernel
theorem dX12_sits_92 : decode cX12_sits 92 = .ok (.iload_n 3, 1) := by decide +kernel
theorem dX12_sits_93 : decode cX12_sits 93 = .ok (.invokevirtual 426, 3) := by decide +kernel
theorem dX12_sits_96 : decode cX12_sits 96 = .ok (.invokestatic 429, 3) := by decide +kernel
theorem dX12_sits_99 : decode cX12_sits 99 = .ok (.iastore, 1) := by decide +kernel
theorem dX12_sits_100 : decode cX12_sits 100 = .ok (.aload_n 0, 1) := by decide +kernel
theorem dX12_sits_101 : decode cX12_sits 101 = .ok (.dup, 1) := by decide +kernel
theorem dX12_sits_102 : decode cX12_sits 102 = .ok (.getfield 419, 3) := by decide +kernel
theorem dX12_sits_105 : decode cX12_sits 105 = .ok (.aload_n 0, 1) := by decide +kernel
theorem dX12_sits_106 : decode cX12_sits 106 = .ok (.getfield 142, 3) := by decide +kernel
theorem dX12_sits_109 : decode cX12_sits 109 = .ok (.iload_n 3, 1) := by decide +kernel
theorem dX12_sits_110 : decode cX12_sits 110 = .ok (.iaload, 1) := by decide +kernel
theorem dX12_sits_111 : decode cX12_sits 111 = .ok (.iadd, 1) := by decide +kernel
theorem dX12_sits_112 : decode cX12_sits 112 = .ok (.putfield 419, 3) := by decide +kernel
theorem dX12_sits_115 : decode cX12_sits 115 = .ok (.aload_n 0, 1) := by decide +kernel
theorem dX12_sits_116 : decode cX12_sits 116 = .ok (.getfield 129, 3) := by decide +kernel
theorem dX12_sits_119 : decode cX12_sits 119 = .ok (.iconst 4, 1) := by decide +kernel
theorem dX12_sits_120 : decode cX12_sits 120 = .ok (.if_icmp .eq 12, 3) := by decide +kernel
theorem dX12_sits_123 : decode cX12_sits 123 = .ok (.iload_n 2, 1) := by decide +kernel
theorem dX12_sits_124 : decode cX12_sits 124 = .ok (.aload_n 0, 1) := by decide +kernel
theorem dX12_sits_125 : decode cX12_sits 125 = .ok (.getfield 142, 3) := by decide +kernel
theorem dX12_sits_128 : decode cX12_sits 128 = .ok (.iload_n 3, 1) := by decide +kernel
theorem dX12_sits_129 : decode cX12_sits 129 = .ok (.iaload, 1) := by decide +kernel
theorem dX12_sits_130 : decode cX12_sits 130 = .ok (.isub, 1) := by decide +kernel
theorem dX12_sits_131 : decode cX12_sits 131 = .ok (.istore_n 2, 1) := by decide +kernel
theorem dX12_sits_132 : decode cX12_sits 132 = .ok (.iinc 3 1, 3) := by decide +kernel
theorem dX12_sits_135 : decode cX12_sits 135 = .ok (.goto (-101), 3) := by decide +kernel
theorem dX12_sits_138 : decode cX12_sits 138 = .ok (.iconst 0, 1) := by decide +kernel
theorem dX12_sits_139 : decode cX12_sits 139 = .ok (.istore_n 3, 1) := by decide +kernel
theorem dX12_sits_140 : decode cX12_sits 140 = .ok (.iload_n 3, 1) := by decide +kernel
theorem dX12_sits_141 : decode cX12_sits 141 = .ok (.bipush 9, 2) := by decide +kernel
theorem dX12_sits_143 : decode cX12_sits 143 = .ok (.if_icmp .ge 75, 3) := by decide +kernel
theorem dX12_sits_146 : decode cX12_sits 146 = .ok (.aload_n 0, 1) := by decide +kernel
theorem dX12_sits_147 : decode cX12_sits 147 = .ok (.getfield 142, 3) := by decide +kernel
theorem dX12_sits_150 : decode cX12_sits 150 = .ok (.iload_n 3, 1) := by decide +kernel
theorem dX12_sits_151 : decode cX12_sits 151 = .ok (.iaload, 1) := by decide +kernel
theorem dX12_sits_152 : decode cX12_sits 152 = .ok (.ifCond .ne 6, 3) := by decide +kernel
theorem dX12_sits_155 : decode cX12_sits 155 = .ok (.goto 57, 3) := by decide +kernel
theorem dX12_sits_158 : decode cX12_sits 158 = .ok (.aload_n 0, 1) := by decide +kernel
theorem dX12_sits_159 : decode cX12_sits 159 = .ok (.getfield 145, 3) := by decide +kernel
theorem dX12_sits_162 : decode cX12_sits 162 = .ok (.iload_n 3, 1) := by decide +kernel
theorem dX12_sits_163 : decode cX12_sits 163 = .ok (.aload_n 0, 1) := by decide +kernel
theorem dX12_sits_164 : decode cX12_sits 164 = .ok (.iload_n 1, 1) := by decide +kernel
theorem dX12_sits_165 : decode cX12_sits 165 = .ok (.iload_n 3, 1) := by decide +kernel
theorem dX12_sits_166 : decode cX12_sits 166 = .ok (.aload_n 0, 1) := by decide +kernel
theorem dX12_sits_167 : decode cX12_sits 167 = .ok (.getfield 142, 3) := by decide +kernel
theorem dX12_sits_170 : decode cX12_sits 170 = .ok (.iload_n 3, 1) := by decide +kernel
theorem dX12_sits_171 : decode cX12_sits 171 = .ok (.iaload, 1) := by decide +kernel
theorem dX12_sits_172 : decode cX12_sits 172 = .ok (.aload_n 0, 1) := by decide +kernel
theorem dX12_sits_173 : decode cX12_sits 173 = .ok (.getfield 93, 3) := by decide +kernel
theorem dX12_sits_176 : decode cX12_sits 176 = .ok (.iload_n 1, 1) := by decide +kernel
theorem dX12_sits_177 : decode cX12_sits 177 = .ok (.iaload, 1) := by decide +kernel
theorem dX12_sits_178 : decode cX12_sits 178 = .ok (.invokevirtual 432, 3) := by decide +kernel
theorem dX12_sits_181 : decode cX12_sits 181 = .ok (.iastore, 1) := by decide +kernel
theorem dX12_sits_182 : decode cX12_sits 182 = .ok (.aload_n 0, 1) := by decide +kernel
theorem dX12_sits_183 : decode cX12_sits 183 = .ok (.getfield 145, 3) := by decide +kernel
theorem dX12_sits_186 : decode cX12_sits 186 = .ok (.iload_n 3, 1) := by decide +kernel
theorem dX12_sits_187 : decode cX12_sits 187 = .ok (.iaload, 1) := by decide +kernel
theorem dX12_sits_188 : decode cX12_sits 188 = .ok (.iconst (-1), 1) := by decide +kernel
theorem dX12_sits_189 : decode cX12_sits 189 = .ok (.if_icmp .eq 23, 3) := by decide +kernel
theorem dX12_sits_192 : decode cX12_sits 192 = .ok (.aload_n 0, 1) := by decide +kernel
theorem dX12_sits_193 : decode cX12_sits 193 = .ok (.getfield 148, 3) := by decide +kernel
theorem dX12_sits_196 : decode cX12_sits 196 = .ok (.aload_n 0, 1) := by decide +kernel
theorem dX12_sits_197 : decode cX12_sits 197 = .ok (.getfield 145, 3) := by decide +kernel
theorem dX12_sits_200 : decode cX12_sits 200 = .ok (.iload_n 3, 1) := by decide +kernel
theorem dX12_sits_201 : decode cX12_sits 201 = .ok (.iaload, 1) := by decide +kernel
theorem dX12_sits_202 : decode cX12_sits 202 = .ok (.dup2, 1) := by decide +kernel
theorem dX12_sits_203 : decode cX12_sits 203 = .ok (.iaload, 1) := by decide +kernel
theorem dX12_sits_204 : decode cX12_sits 204 = .ok (.aload_n 0, 1) := by decide +kernel
theorem dX12_sits_205 : decode cX12_sits 205 = .ok (.getfield 142, 3) := by decide +kernel
theorem dX12_sits_208 : decode cX12_sits 208 = .ok (.iload_n 3, 1) := by decide +kernel
theorem dX12_sits_209 : decode cX12_sits 209 = .ok (.iaload, 1) := by decide +kernel
theorem dX12_sits_210 : decode cX12_sits 210 = .ok (.iadd, 1) := by decide +kernel
theorem dX12_sits_211 : decode cX12_sits 211 = .ok (.iastore, 1) := by decide +kernel
theorem dX12_sits_212 : decode cX12_sits 212 = .ok (.iinc 3 1, 3) := by decide +kernel
theorem dX12_sits_215 : decode cX12_sits 215 = .ok (.goto (-75), 3) := by decide +kernel
theorem dX12_sits_218 : decode cX12_sits 218 = .ok (.iconst 0, 1) := by decide +kernel
theorem dX12_sits_219 : decode cX12_sits 219 = .ok (.istore_n 3, 1) := by decide +kernel
theorem dX12_sits_220 : decode cX12_sits 220 = .ok (.iload_n 3, 1) := by decide +kernel
theorem dX12_sits_221 : decode cX12_sits 221 = .ok (.aload_n 0, 1) := by decide +kernel
theorem dX12_sits_222 : decode cX12_sits 222 = .ok (.getfield 13, 3) := by decide +kernel
theorem dX12_sits_225 : decode cX12_sits 225 = .ok (.iconst 5, 1) := by decide +kernel
theorem dX12_sits_226 : decode cX12_sits 226 = .ok (.iaload, 1) := by decide +kernel
theorem dX12_sits_227 : decode cX12_sits 227 = .ok (.if_icmp .ge 93, 3) := by decide +kernel
theorem dX12_sits_230 : decode cX12_sits 230 = .ok (.aload_n 0, 1) := by decide +kernel
theorem dX12_sits_231 : decode cX12_sits 231 = .ok (.getfield 129, 3) := by decide +kernel
theorem dX12_sits_234 : decode cX12_sits 234 = .ok (.iconst 1, 1) := by decide +kernel
theorem dX12_sits_235 : decode cX12_sits 235 = .ok (.if_icmp .eq 85, 3) := by decide +kernel
theorem dX12_sits_238 : decode cX12_sits 238 = .ok (.aload_n 0, 1) := by decide +kernel
theorem dX12_sits_239 : decode cX12_sits 239 = .ok (.getfield 84, 3) := by decide +kernel
theorem dX12_sits_242 : decode cX12_sits 242 = .ok (.bipush 64, 2) := by decide +kernel
theorem dX12_sits_244 : decode cX12_sits 244 = .ok (.aload_n 0, 1) := by decide +kernel
theorem dX12_sits_245 : decode cX12_sits 245 = .ok (.getfield 23, 3) := by decide +kernel
theorem dX12_sits_248 : decode cX12_sits 248 = .ok (.iload_n 3, 1) := by decide +kernel
theorem dX12_sits_249 : decode cX12_sits 249 = .ok (.iaload, 1) := by decide +kernel
theorem dX12_sits_250 : decode cX12_sits 250 = .ok (.imul, 1) := by decide +kernel
theorem dX12_sits_251 : decode cX12_sits 251 = .ok (.aload_n 0, 1) := by decide +kernel
theorem dX12_sits_252 : decode cX12_sits 252 = .ok (.getfield 90, 3) := by decide +kernel
theorem dX12_sits_255 : decode cX12_sits 255 = .ok (.iload_n 1, 1) := by decide +kernel
theorem dX12_sits_256 : decode cX12_sits 256 = .ok (.iaload, 1) := by decide +kernel
theorem dX12_sits_257 : decode cX12_sits 257 = .ok (.iadd, 1) := by decide +kernel
theorem dX12_sits_258 : decode cX12_sits 258 = .ok (.iaload, 1) := by decide +kernel
theorem dX12_sits_259 : decode cX12_sits 259 = .ok (.istore 4, 2) := by decide +kernel
theorem dX12_sits_261 : decode cX12_sits 261 = .ok (.aload_n 0, 1) := by decide +kernel
theorem dX12_sits_262 : decode cX12_sits 262 = .ok (.iload_n 1, 1) := by decide +kernel
theorem dX12_sits_263 : decode cX12_sits 263 = .ok (.aload_n 0, 1) := by decide +kernel
theorem dX12_sits_264 : decode cX12_sits 264 = .ok (.getfield 23, 3) := by decide +kernel
theorem dX12_sits_267 : decode cX12_sits 267 = .ok (.iload_n 3, 1) := by decide +kernel
theorem dX12_sits_268 : decode cX12_sits 268 = .ok (.iaload, 1) := by decide +kernel
theorem dX12_sits_269 : decode cX12_sits 269 = .ok (.invokevirtual 436, 3) := by decide +kernel
theorem dX12_sits_272 : decode cX12_sits 272 = .ok (.istore 5, 2) := by decide +kernel
theorem dX12_sits_274 : decode cX12_sits 274 = .ok (.iload 4, 2) := by decide +kernel
theorem dX12_sits_276 : decode cX12_sits 276 = .ok (.bipush 99, 2) := by decide +kernel
theorem dX12_sits_278 : decode cX12_sits 278 = .ok (.if_icmp .ge 36, 3) := by decide +kernel
theorem dX12_sits_281 : decode cX12_sits 281 = .ok (.iload 4, 2) := by decide +kernel
theorem dX12_sits_283 : decode cX12_sits 283 = .ok (.aload_n 0, 1) := by decide +kernel
theorem dX12_sits_284 : decode cX12_sits 284 = .ok (.getfield 26, 3) := by decide +kernel
theorem dX12_sits_287 : decode cX12_sits 287 = .ok (.iload_n 3, 1) := by decide +kernel
theorem dX12_sits_288 : decode cX12_sits 288 = .ok (.iaload, 1) := by decide +kernel
theorem dX12_sits_289 : decode cX12_sits 289 = .ok (.if_icmp .gt 25, 3) := by decide +kernel
theorem dX12_sits_292 : decode cX12_sits 292 = .ok (.iload 5, 2) := by decide +kernel
theorem dX12_sits_294 : decode cX12_sits 294 = .ok (.iconst (-1), 1) := by decide +kernel
theorem dX12_sits_295 : decode cX12_sits 295 = .ok (.if_icmp .eq 19, 3) := by decide +kernel
theorem dX12_sits_298 : decode cX12_sits 298 = .ok (.aload_n 0, 1) := by decide +kernel
theorem dX12_sits_299 : decode cX12_sits 299 = .ok (.getfield 148, 3) := by decide +kernel
theorem dX12_sits_302 : decode cX12_sits 302 = .ok (.iload 5, 2) := by decide +kernel
theorem dX12_sits_304 : decode cX12_sits 304 = .ok (.dup2, 1) := by decide +kernel
theorem dX12_sits_305 : decode cX12_sits 305 = .ok (.iaload, 1) := by decide +kernel
theorem dX12_sits_306 : decode cX12_sits 306 = .ok (.aload_n 0, 1) := by decide +kernel
theorem dX12_sits_307 : decode cX12_sits 307 = .ok (.getfield 29, 3) := by decide +kernel
theorem dX12_sits_310 : decode cX12_sits 310 = .ok (.iload_n 3, 1) := by decide +kernel
theorem dX12_sits_311 : decode cX12_sits 311 = .ok (.iaload, 1) := by decide +kernel
theorem dX12_sits_312 : decode cX12_sits 312 = .ok (.iadd, 1) := by decide +kernel
theorem dX12_sits_313 : decode cX12_sits 313 = .ok (.iastore, 1) := by decide +kernel
theorem dX12_sits_314 : decode cX12_sits 314 = .ok (.iinc 3 1, 3) := by decide +kernel
theorem dX12_sits_317 : decode cX12_sits 317 = .ok (.goto (-97), 3) := by decide +kernel
theorem dX12_sits_320 : decode cX12_sits 320 = .ok (.iconst 0, 1) := by decide +kernel
theorem dX12_sits_321 : decode cX12_sits 321 = .ok (.istore_n 3, 1) := by decide +kernel
theorem dX12_sits_322 : decode cX12_sits 322 = .ok (.iload_n 3, 1) := by decide +kernel
theorem dX12_sits_323 : decode cX12_sits 323 = .ok (.aload_n 0, 1) := by decide +kernel
theorem dX12_sits_324 : decode cX12_sits 324 = .ok (.getfield 13, 3) := by decide +kernel
theorem dX12_sits_327 : decode cX12_sits 327 = .ok (.bipush 7, 2) := by decide +kernel
theorem dX12_sits_329 : decode cX12_sits 329 = .ok (.iaload, 1) := by decide +kernel
theorem dX12_sits_330 : decode cX12_sits 330 = .ok (.if_icmp .ge 52, 3) := by decide +kernel
theorem dX12_sits_333 : decode cX12_sits 333 = .ok (.aload_n 0, 1) := by decide +kernel
theorem dX12_sits_334 : decode cX12_sits 334 = .ok (.getfield 129, 3) := by decide +kernel
theorem dX12_sits_337 : decode cX12_sits 337 = .ok (.iconst 2, 1) := by decide +kernel
theorem dX12_sits_338 : decode cX12_sits 338 = .ok (.if_icmp .eq 44, 3) := by decide +kernel
theorem dX12_sits_341 : decode cX12_sits 341 = .ok (.aload_n 0, 1) := by decide +kernel
theorem dX12_sits_342 : decode cX12_sits 342 = .ok (.getfield 35, 3) := by decide +kernel
theorem dX12_sits_345 : decode cX12_sits 345 = .ok (.iload_n 3, 1) := by decide +kernel
theorem dX12_sits_346 : decode cX12_sits 346 = .ok (.iaload, 1) := by decide +kernel
theorem dX12_sits_347 : decode cX12_sits 347 = .ok (.aload_n 0, 1) := by decide +kernel
theorem dX12_sits_348 : decode cX12_sits 348 = .ok (.getfield 87, 3) := by decide +kernel
theorem dX12_sits_351 : decode cX12_sits 351 = .ok (.iload_n 1, 1) := by decide +kernel
theorem dX12_sits_352 : decode cX12_sits 352 = .ok (.iaload, 1) := by decide +kernel
theorem dX12_sits_353 : decode cX12_sits 353 = .ok (.if_icmp .ne 23, 3) := by decide +kernel
theorem dX12_sits_356 : decode cX12_sits 356 = .ok (.aload_n 0, 1) := by decide +kernel
theorem dX12_sits_357 : decode cX12_sits 357 = .ok (.getfield 148, 3) := by decide +kernel
theorem dX12_sits_360 : decode cX12_sits 360 = .ok (.aload_n 0, 1) := by decide +kernel
theorem dX12_sits_361 : decode cX12_sits 361 = .ok (.getfield 38, 3) := by decide +kernel
theorem dX12_sits_364 : decode cX12_sits 364 = .ok (.iload_n 3, 1) := by decide +kernel
theorem dX12_sits_365 : decode cX12_sits 365 = .ok (.iaload, 1) := by decide +kernel
theorem dX12_sits_366 : decode cX12_sits 366 = .ok (.dup2, 1) := by decide +kernel
theorem dX12_sits_367 : decode cX12_sits 367 = .ok (.iaload, 1) := by decide +kernel
theorem dX12_sits_368 : decode cX12_sits 368 = .ok (.aload_n 0, 1) := by decide +kernel
theorem dX12_sits_369 : decode cX12_sits 369 = .ok (.getfield 41, 3) := by decide +kernel
theorem dX12_sits_372 : decode cX12_sits 372 = .ok (.iload_n 3, 1) := by decide +kernel
theorem dX12_sits_373 : decode cX12_sits 373 = .ok (.iaload, 1) := by decide +kernel
theorem dX12_sits_374 : decode cX12_sits 374 = .ok (.iadd, 1) := by decide +kernel
theorem dX12_sits_375 : decode cX12_sits 375 = .ok (.iastore, 1) := by decide +kernel
theorem dX12_sits_376 : decode cX12_sits 376 = .ok (.iinc 3 1, 3) := by decide +kernel
theorem dX12_sits_379 : decode cX12_sits 379 = .ok (.goto (-57), 3) := by decide +kernel
theorem dX12_sits_382 : decode cX12_sits 382 = .ok (.return_, 1) := by decide +kernel
noncomputable def b_X12_sits_0 (rec : Rk) (x1 : Int) (h : Hp) : Option (Int × Hp) :=
  ck (0 ≤ x1 ∧ x1 < 23) <|
  lt (gI h 86 0 x1) fun z1 =>
  lt (sI h 12 0 64 0) fun h2 =>
  rec 1 [x1, z1, 0] h2
noncomputable def b_X12_sits_1 (rec : Rk) (x1 x2 x3 : Int) (h : Hp) : Option (Int × Hp) :=
  if 4 ≤ x3 then (
    rec 2 [x1, x2, 0] h
  ) else (
    ck (0 ≤ x3 ∧ x3 < 4) <|
    lt (sI h 102 0 x3 0) fun h1 =>
    ck (-2147483648 ≤ x3 + 1 ∧ x3 + 1 < 2147483648) <|
    rec 1 [x1, x2, x3 + 1] h1
  )
noncomputable def b_X12_sits_2 (rec : Rk) (x1 x2 x3 : Int) (h : Hp) : Option (Int × Hp) :=
  if 9 ≤ x3 then (
    rec 5 [x1, 0] h
  ) else (
    ck (0 ≤ x3 ∧ x3 < 9) <|
    lt (sI h 100 0 x3 0) fun h1 =>
    ck (0 ≤ x3 ∧ x3 < 9) <|
    lt (sI h1 101 0 x3 (-1)) fun h2 =>
    bd (f_X12_isAboard x1 x3 h2) fun v3 h4 =>
    if v3 = 0 then (
      rec 4 [x1, x2, x3] h4
    ) else (
      if 5 ≤ x3 then (
        rec 3 [x1, x2, x3] h4
      ) else (
        ck (0 ≤ x1 ∧ x1 < 23) <|
        if (band (bshr (gI h4 89 0 x1) x3) 1) = 0 then (
          rec 4 [x1, x2, x3] h4
        ) else (
          rec 3 [x1, x2, x3] h4
        )
      )
    )
  )
noncomputable def b_X12_sits_3 (rec : Rk) (x1 x2 x3 : Int) (h : Hp) : Option (Int × Hp) :=
  bd (f_X12_platesOf x1 x3 h) fun v1 h2 =>
  ck (0 ≤ x3 ∧ x3 < 9) <|
  lt (sI h2 100 0 x3 (min x2 v1)) fun h3 =>
  ck (0 ≤ x3 ∧ x3 < 9) <|
  ck (-2147483648 ≤ (gI h3 12 0 64) + (gI h3 100 0 x3) ∧ (gI h3 12 0 64) + (gI h3 100 0 x3) < 2147483648) <|
  lt (sI h3 12 0 64 ((gI h3 12 0 64) + (gI h3 100 0 x3))) fun h4 =>
  if (gI h4 12 0 55) = 4 then (
    rec 4 [x1, x2, x3] h4
  ) else (
    ck (0 ≤ x3 ∧ x3 < 9) <|
    ck (-2147483648 ≤ x2 - (gI h4 100 0 x3) ∧ x2 - (gI h4 100 0 x3) < 2147483648) <|
    lt (x2 - (gI h4 100 0 x3)) fun z5 =>
    rec 4 [x1, z5, x3] h4
  )
noncomputable def b_X12_sits_4 (rec : Rk) (x1 x2 x3 : Int) (h : Hp) : Option (Int × Hp) :=
  ck (-2147483648 ≤ x3 + 1 ∧ x3 + 1 < 2147483648) <|
  rec 2 [x1, x2, x3 + 1] h
noncomputable def b_X12_sits_5 (rec : Rk) (x1 x3 : Int) (h : Hp) : Option (Int × Hp) :=
  if 9 ≤ x3 then (
    rec 7 [x1, 0] h
  ) else (
    ck (0 ≤ x3 ∧ x3 < 9) <|
    if (gI h 100 0 x3) = 0 then (
      rec 6 [x1, x3] h
    ) else (
      ck (0 ≤ x3 ∧ x3 < 9) <|
      ck (0 ≤ x1 ∧ x1 < 23) <|
      bd (f_X12_votesFor x1 x3 (gI h 100 0 x3) (gI h 86 0 x1) h) fun v1 h2 =>
      ck (0 ≤ x3 ∧ x3 < 9) <|
      lt (sI h2 101 0 x3 v1) fun h3 =>
      ck (0 ≤ x3 ∧ x3 < 9) <|
      if (gI h3 101 0 x3) = (-1) then (
        rec 6 [x1, x3] h3
      ) else (
        ck (0 ≤ x3 ∧ x3 < 9) <|
        ck (0 ≤ (gI h3 101 0 x3) ∧ (gI h3 101 0 x3) < 4) <|
        ck (0 ≤ x3 ∧ x3 < 9) <|
        ck (-2147483648 ≤ (gI h3 102 0 (gI h3 101 0 x3)) + (gI h3 100 0 x3) ∧ (gI h3 102 0 (gI h3 101 0 x3)) + (gI h3 100 0 x3) < 2147483648) <|
        ck (0 ≤ (gI h3 101 0 x3) ∧ (gI h3 101 0 x3) < 4) <|
        lt (sI h3 102 0 (gI h3 101 0 x3) ((gI h3 102 0 (gI h3 101 0 x3)) + (gI h3 100 0 x3))) fun h4 =>
        rec 6 [x1, x3] h4
      )
    )
  )
noncomputable def b_X12_sits_6 (rec : Rk) (x1 x3 : Int) (h : Hp) : Option (Int × Hp) :=
  ck (-2147483648 ≤ x3 + 1 ∧ x3 + 1 < 2147483648) <|
  rec 5 [x1, x3 + 1] h
noncomputable def b_X12_sits_7 (rec : Rk) (x1 x3 : Int) (h : Hp) : Option (Int × Hp) :=
  ck (0 ≤ (5 : Int) ∧ (5 : Int) < 30) <|
  if (gI h 61 0 5) ≤ x3 then (
    rec 9 [x1] h
  ) else (
    if (gI h 12 0 55) = 1 then (
      rec 9 [x1] h
    ) else (
      ck (0 ≤ x3 ∧ x3 < 6) <|
      ck (-2147483648 ≤ 64 * (gI h 64 0 x3) ∧ 64 * (gI h 64 0 x3) < 2147483648) <|
      ck (0 ≤ x1 ∧ x1 < 23) <|
      ck (-2147483648 ≤ (64 * (gI h 64 0 x3)) + (gI h 85 0 x1) ∧ (64 * (gI h 64 0 x3)) + (gI h 85 0 x1) < 2147483648) <|
      ck (0 ≤ ((64 * (gI h 64 0 x3)) + (gI h 85 0 x1)) ∧ ((64 * (gI h 64 0 x3)) + (gI h 85 0 x1)) < 4096) <|
      lt (gI h 83 0 ((64 * (gI h 64 0 x3)) + (gI h 85 0 x1))) fun z1 =>
      ck (0 ≤ x3 ∧ x3 < 6) <|
      bd (f_X12_nearest x1 (gI h 64 0 x3) h) fun v2 h3 =>
      if 99 ≤ z1 then (
        rec 8 [x1, x3] h3
      ) else (
        ck (0 ≤ x3 ∧ x3 < 6) <|
        if (gI h3 65 0 x3) < z1 then (
          rec 8 [x1, x3] h3
        ) else (
          if v2 = (-1) then (
            rec 8 [x1, x3] h3
          ) else (
            ck (0 ≤ v2 ∧ v2 < 4) <|
            ck (0 ≤ x3 ∧ x3 < 6) <|
            ck (-2147483648 ≤ (gI h3 102 0 v2) + (gI h3 66 0 x3) ∧ (gI h3 102 0 v2) + (gI h3 66 0 x3) < 2147483648) <|
            ck (0 ≤ v2 ∧ v2 < 4) <|
            lt (sI h3 102 0 v2 ((gI h3 102 0 v2) + (gI h3 66 0 x3))) fun h4 =>
            rec 8 [x1, x3] h4
          )
        )
      )
    )
  )
noncomputable def b_X12_sits_8 (rec : Rk) (x1 x3 : Int) (h : Hp) : Option (Int × Hp) :=
  ck (-2147483648 ≤ x3 + 1 ∧ x3 + 1 < 2147483648) <|
  rec 7 [x1, x3 + 1] h
noncomputable def b_X12_sits_9 (rec : Rk) (x1 : Int) (h : Hp) : Option (Int × Hp) :=
  rec 10 [x1, 0] h
noncomputable def b_X12_sits_10 (rec : Rk) (x1 x3 : Int) (h : Hp) : Option (Int × Hp) :=
  ck (0 ≤ (7 : Int) ∧ (7 : Int) < 30) <|
  if (gI h 61 0 7) ≤ x3 then (
    some (0, h)
  ) else (
    if (gI h 12 0 55) = 2 then (
      some (0, h)
    ) else (
      ck (0 ≤ x3 ∧ x3 < 8) <|
      ck (0 ≤ x1 ∧ x1 < 23) <|
      if (gI h 68 0 x3) = (gI h 84 0 x1) then (
        ck (0 ≤ x3 ∧ x3 < 8) <|
        ck (0 ≤ (gI h 69 0 x3) ∧ (gI h 69 0 x3) < 4) <|
        ck (0 ≤ x3 ∧ x3 < 8) <|
        ck (-2147483648 ≤ (gI h 102 0 (gI h 69 0 x3)) + (gI h 70 0 x3) ∧ (gI h 102 0 (gI h 69 0 x3)) + (gI h 70 0 x3) < 2147483648) <|
        ck (0 ≤ (gI h 69 0 x3) ∧ (gI h 69 0 x3) < 4) <|
        lt (sI h 102 0 (gI h 69 0 x3) ((gI h 102 0 (gI h 69 0 x3)) + (gI h 70 0 x3))) fun h1 =>
        rec 11 [x1, x3] h1
      ) else (
        rec 11 [x1, x3] h
      )
    )
  )
noncomputable def b_X12_sits_11 (rec : Rk) (x1 x3 : Int) (h : Hp) : Option (Int × Hp) :=
  ck (-2147483648 ≤ x3 + 1 ∧ x3 + 1 < 2147483648) <|
  rec 10 [x1, x3 + 1] h
noncomputable def g_X12_sits (n : Nat) : Rk := Nat.rec (motive := fun _ => Rk) (fun _ _ _ => none) (fun _ rec k l h => if k = 0 then b_X12_sits_0 rec (l.getD 0 0) h else if k = 1 then b_X12_sits_1 rec (l.getD 0 0) (l.getD 1 0) (l.getD 2 0) h else if k = 2 then b_X12_sits_2 rec (l.getD 0 0) (l.getD 1 0) (l.getD 2 0) h else if k = 3 then b_X12_sits_3 rec (l.getD 0 0) (l.getD 1 0) (l.getD 2 0) h else if k = 4 then b_X12_sits_4 rec (l.getD 0 0) (l.getD 1 0) (l.getD 2 0) h else if k = 5 then b_X12_sits_5 rec (l.getD 0 0) (l.getD 1 0) h else if k = 6 then b_X12_sits_6 rec (l.getD 0 0) (l.getD 1 0) h else if k = 7 then b_X12_sits_7 rec (l.getD 0 0) (l.getD 1 0) h else if k = 8 then b_X12_sits_8 rec (l.getD 0 0) (l.getD 1 0) h else if k = 9 then b_X12_sits_9 rec (l.getD 0 0) h else if k = 10 then b_X12_sits_10 rec (l.getD 0 0) (l.getD 1 0) h else if k = 11 then b_X12_sits_11 rec (l.getD 0 0) (l.getD 1 0) h else none) n
noncomputable def f_X12_sits (x1 : Int) (h : Hp) : Option (Int × Hp) := g_X12_sits FU 0 [x1] h
set_option maxHeartbeats 4000000 in
set_option maxRecDepth 100000 in
theorem t_X12_sits_0 (E : xE) (d : Nat) (rec : Rk) (r : Int × Hp) (hr_14 : ∀ (x1 x2 x3 : Int) (h : Hp), Lay h → rec 1 [x1, x2, x3] h = some r → X E mX12_sits (d + 6) (0, 0) (0, 0) 14 [some (xr 12 0), some (xi x1), some (xi x2), some (xi x3), none, none] [] h (PoV r)) (x1 : Int) (h : Hp) (hL : Lay h) (hF : b_X12_sits_0 rec x1 h = some r) : X E mX12_sits (d + 6) (0, 0) (0, 0) 0 [some (xr 12 0), some (xi x1), none, none, none, none] [] h (PoV r) := by
  unfold b_X12_sits_0 at hF
  refine x_aload_n (i := 0) (b := 1) dX12_sits_0 rfl rfl rfl ?_
  refine x_getL (j := 0) (t := (86, 0, true)) (b := 4) fk_X12_93 dX12_sits_1 rfl hL rfl rfl rfl ?_
  refine x_iload_n (i := 1) (b := 5) dX12_sits_4 rfl rfl rfl ?_
  obtain ⟨hs, hF⟩ := ck_e hF
  refine x_iald (v := gI h 86 0 x1) (b := 6) ak_86 dX12_sits_5 hs rfl rfl ?_
  obtain ⟨z1, e_z1, hF⟩ := lt_e hF
  refine x_eq (y := z1) e_z1 ?_
  refine x_istore_n (i := 2) (b := 7) (ls2 := [some (xr 12 0), some (xi x1), some (xi z1), none, none, none]) dX12_sits_6 rfl (Nat.le_of_ble_eq_true rfl) rfl rfl ?_
  refine x_aload_n (i := 0) (b := 8) dX12_sits_7 rfl rfl rfl ?_
  refine x_iconst (n := 0) (b := 9) dX12_sits_8 (by decide) rfl ?_
  refine x_putI (b := 12) fk_X12_419 dX12_sits_9 rfl rfl 64 rfl ?_
  obtain ⟨h2, e_h2, hF⟩ := lt_e hF
  refine x_hp (h2 := h2) e_h2 ?_
  replace hL : Lay h2 := by rw [← e_h2]; exact hL
  refine x_iconst (n := 0) (b := 13) dX12_sits_12 (by decide) rfl ?_
  refine x_istore_n (i := 3) (b := 14) (ls2 := [some (xr 12 0), some (xi x1), some (xi z1), some (xi 0), none, none]) dX12_sits_13 rfl (Nat.le_of_ble_eq_true rfl) rfl rfl ?_
  exact x_dp (ls2 := [some (xr 12 0), some (xi x1), some (xi z1), some (xi 0), none, none]) ⟨rfl, rfl, rfl, rfl, trivial⟩ (hr_14 x1 z1 0 h2 hL hF)
set_option maxHeartbeats 4000000 in
set_option maxRecDepth 100000 in
theorem t_X12_sits_1 (E : xE) (d : Nat) (rec : Rk) (r : Int × Hp) (hr_14 : ∀ (x1 x2 x3 : Int) (h : Hp), Lay h → rec 1 [x1, x2, x3] h = some r → X E mX12_sits (d + 6) (0, 0) (0, 0) 14 [some (xr 12 0), some (xi x1), some (xi x2), some (xi x3), none, none] [] h (PoV r)) (hr_34 : ∀ (x1 x2 x3 : Int) (h : Hp), Lay h → rec 2 [x1, x2, x3] h = some r → X E mX12_sits (d + 6) (0, 0) (0, 0) 34 [some (xr 12 0), some (xi x1), some (xi x2), some (xi x3), none, none] [] h (PoV r)) (x1 x2 x3 : Int) (h : Hp) (hL : Lay h) (hF : b_X12_sits_1 rec x1 x2 x3 h = some r) : X E mX12_sits (d + 6) (0, 0) (0, 0) 14 [some (xr 12 0), some (xi x1), some (xi x2), some (xi x3), none, none] [] h (PoV r) := by
  unfold b_X12_sits_1 at hF
  refine x_iload_n (i := 3) (b := 15) dX12_sits_14 rfl rfl rfl ?_
  refine x_iconst (n := 4) (b := 16) dX12_sits_15 (by decide) rfl ?_
  refine x_icmp_ge (tgt := 32) (b := 19) dX12_sits_16 (by decide) rfl (fun hc => ?_) (fun hc => ?_)
  · replace hF := br_T hc hF
    refine x_iconst (n := 0) (b := 33) dX12_sits_32 (by decide) rfl ?_
    refine x_istore_n (i := 3) (b := 34) (ls2 := [some (xr 12 0), some (xi x1), some (xi x2), some (xi 0), none, none]) dX12_sits_33 rfl (Nat.le_of_ble_eq_true rfl) rfl rfl ?_
    exact x_dp (ls2 := [some (xr 12 0), some (xi x1), some (xi x2), some (xi 0), none, none]) ⟨rfl, rfl, rfl, rfl, trivial⟩ (hr_34 x1 x2 0 h hL hF)
  · replace hF := br_F hc hF
    refine x_aload_n (i := 0) (b := 20) dX12_sits_19 rfl rfl rfl ?_
    refine x_getL (j := 0) (t := (102, 0, true)) (b := 23) fk_X12_148 dX12_sits_20 rfl hL rfl rfl rfl ?_
    refine x_iload_n (i := 3) (b := 24) dX12_sits_23 rfl rfl rfl ?_
    refine x_iconst (n := 0) (b := 25) dX12_sits_24 (by decide) rfl ?_
    obtain ⟨hs, hF⟩ := ck_e hF
    have hs1 := hs
    refine x_iast (b := 26) ak_102 dX12_sits_25 hs1 rfl ?_
    obtain ⟨h1, e_h1, hF⟩ := lt_e hF
    refine x_hp (h2 := h1) e_h1 ?_
    replace hL : Lay h1 := by rw [← e_h1]; exact hL
    obtain ⟨hs, hF⟩ := ck_e hF
    refine x_iinc (i := 3) (b := 29) (ls2 := [some (xr 12 0), some (xi x1), some (xi x2), some (xi (x3 + 1)), none, none]) dX12_sits_26 rfl (Nat.le_of_ble_eq_true rfl) hs rfl rfl ?_
    refine x_goto (tgt := 14) dX12_sits_29 (by decide) ?_
    exact x_dp (ls2 := [some (xr 12 0), some (xi x1), some (xi x2), some (xi (x3 + 1)), none, none]) ⟨rfl, rfl, rfl, rfl, trivial⟩ (hr_14 x1 x2 (x3 + 1) h1 hL hF)
set_option maxHeartbeats 4000000 in
set_option maxRecDepth 100000 in
theorem t_X12_sits_2 (E : xE) (d : Nat) (rec : Rk) (r : Int × Hp) (hr_84 : ∀ (x1 x2 x3 : Int) (h : Hp), Lay h → rec 3 [x1, x2, x3] h = some r → X E mX12_sits (d + 6) (0, 0) (0, 0) 84 [some (xr 12 0), some (xi x1), some (xi x2), some (xi x3), none, none] [] h (PoV r)) (hr_132 : ∀ (x1 x2 x3 : Int) (h : Hp), Lay h → rec 4 [x1, x2, x3] h = some r → X E mX12_sits (d + 6) (0, 0) (0, 0) 132 [some (xr 12 0), some (xi x1), some (xi x2), some (xi x3), none, none] [] h (PoV r)) (hr_140 : ∀ (x1 x3 : Int) (h : Hp), Lay h → rec 5 [x1, x3] h = some r → X E mX12_sits (d + 6) (0, 0) (0, 0) 140 [some (xr 12 0), some (xi x1), none, some (xi x3), none, none] [] h (PoV r)) (x1 x2 x3 : Int) (h : Hp) (hL : Lay h) (hF : b_X12_sits_2 rec x1 x2 x3 h = some r) : X E mX12_sits (d + 6) (0, 0) (0, 0) 34 [some (xr 12 0), some (xi x1), some (xi x2), some (xi x3), none, none] [] h (PoV r) := by
  unfold b_X12_sits_2 at hF
  refine x_iload_n (i := 3) (b := 35) dX12_sits_34 rfl rfl rfl ?_
  refine x_bipush (n := 9) (b := 37) dX12_sits_35 (by decide) rfl ?_
  refine x_icmp_ge (tgt := 138) (b := 40) dX12_sits_37 (by decide) rfl (fun hc => ?_) (fun hc => ?_)
  · replace hF := br_T hc hF
    refine x_iconst (n := 0) (b := 139) dX12_sits_138 (by decide) rfl ?_
    refine x_istore_n (i := 3) (b := 140) (ls2 := [some (xr 12 0), some (xi x1), some (xi x2), some (xi 0), none, none]) dX12_sits_139 rfl (Nat.le_of_ble_eq_true rfl) rfl rfl ?_
    exact x_dp (ls2 := [some (xr 12 0), some (xi x1), none, some (xi 0), none, none]) ⟨rfl, rfl, rfl, trivial⟩ (hr_140 x1 0 h hL hF)
  · replace hF := br_F hc hF
    refine x_aload_n (i := 0) (b := 41) dX12_sits_40 rfl rfl rfl ?_
    refine x_getL (j := 0) (t := (100, 0, true)) (b := 44) fk_X12_142 dX12_sits_41 rfl hL rfl rfl rfl ?_
    refine x_iload_n (i := 3) (b := 45) dX12_sits_44 rfl rfl rfl ?_
    refine x_iconst (n := 0) (b := 46) dX12_sits_45 (by decide) rfl ?_
    obtain ⟨hs, hF⟩ := ck_e hF
    have hs1 := hs
    refine x_iast (b := 47) ak_100 dX12_sits_46 hs1 rfl ?_
    obtain ⟨h1, e_h1, hF⟩ := lt_e hF
    refine x_hp (h2 := h1) e_h1 ?_
    replace hL : Lay h1 := by rw [← e_h1]; exact hL
    refine x_aload_n (i := 0) (b := 48) dX12_sits_47 rfl rfl rfl ?_
    refine x_getL (j := 0) (t := (101, 0, true)) (b := 51) fk_X12_145 dX12_sits_48 rfl hL rfl rfl rfl ?_
    refine x_iload_n (i := 3) (b := 52) dX12_sits_51 rfl rfl rfl ?_
    refine x_iconst (n := (-1)) (b := 53) dX12_sits_52 (by decide) rfl ?_
    obtain ⟨hs, hF⟩ := ck_e hF
    have hs1 := hs
    refine x_iast (b := 54) ak_101 dX12_sits_53 hs1 rfl ?_
    obtain ⟨h2, e_h2, hF⟩ := lt_e hF
    refine x_hp (h2 := h2) e_h2 ?_
    replace hL : Lay h2 := by rw [← e_h2]; exact hL
    refine x_aload_n (i := 0) (b := 55) dX12_sits_54 rfl rfl rfl ?_
    refine x_iload_n (i := 1) (b := 56) dX12_sits_55 rfl rfl rfl ?_
    refine x_iload_n (i := 3) (b := 57) dX12_sits_56 rfl rfl rfl ?_
    obtain ⟨v3, h4, hq, hF⟩ := bd_e hF
    refine x_callV (as := [xi x1, xi x3]) (rest := []) (b := 60) (c_X12_isAboard (d + 3) x1 x3 h2 _ hL hq) dX12_sits_57 cw_X12_422 ⟨_, _, rfl, Nat.le_of_ble_eq_true rfl⟩ rfl rfl (Nat.le_of_ble_eq_true rfl) ⟨Nat.le_refl _, Nat.le_refl _⟩ rfl (fun rv hh hp _ => ?_)
    obtain ⟨rfl, rfl, hL⟩ := hp
    refine x_if_eq (tgt := 132) (b := 63) dX12_sits_60 (by decide) rfl (fun hc => ?_) (fun hc => ?_)
    · replace hF := br_T hc hF
      exact x_dp (ls2 := [some (xr 12 0), some (xi x1), some (xi x2), some (xi x3), none, none]) ⟨rfl, rfl, rfl, rfl, trivial⟩ (hr_132 x1 x2 x3 h4 hL hF)
    · replace hF := br_F hc hF
      refine x_iload_n (i := 3) (b := 64) dX12_sits_63 rfl rfl rfl ?_
      refine x_iconst (n := 5) (b := 65) dX12_sits_64 (by decide) rfl ?_
      refine x_icmp_ge (tgt := 84) (b := 68) dX12_sits_65 (by decide) rfl (fun hc => ?_) (fun hc => ?_)
      · replace hF := br_T hc hF
        exact x_dp (ls2 := [some (xr 12 0), some (xi x1), some (xi x2), some (xi x3), none, none]) ⟨rfl, rfl, rfl, rfl, trivial⟩ (hr_84 x1 x2 x3 h4 hL hF)
      · replace hF := br_F hc hF
        refine x_aload_n (i := 0) (b := 69) dX12_sits_68 rfl rfl rfl ?_
        refine x_getL (j := 0) (t := (89, 0, true)) (b := 72) fk_X12_102 dX12_sits_69 rfl hL rfl rfl rfl ?_
        refine x_iload_n (i := 1) (b := 73) dX12_sits_72 rfl rfl rfl ?_
        obtain ⟨hs, hF⟩ := ck_e hF
        refine x_iald (v := gI h4 89 0 x1) (b := 74) ak_89 dX12_sits_73 hs rfl rfl ?_
        refine x_iload_n (i := 3) (b := 75) dX12_sits_74 rfl rfl rfl ?_
        refine x_ishr (b := 76) dX12_sits_75 rfl ?_
        refine x_iconst (n := 1) (b := 77) dX12_sits_76 (by decide) rfl ?_
        refine x_iand (b := 78) dX12_sits_77 rfl ?_
        refine x_if_ne (tgt := 84) (b := 81) dX12_sits_78 (by decide) rfl (fun hc => ?_) (fun hc => ?_)
        · replace hF := br_F hc hF
          exact x_dp (ls2 := [some (xr 12 0), some (xi x1), some (xi x2), some (xi x3), none, none]) ⟨rfl, rfl, rfl, rfl, trivial⟩ (hr_84 x1 x2 x3 h4 hL hF)
        · replace hF := br_T hc hF
          refine x_goto (tgt := 132) dX12_sits_81 (by decide) ?_
          exact x_dp (ls2 := [some (xr 12 0), some (xi x1), some (xi x2), some (xi x3), none, none]) ⟨rfl, rfl, rfl, rfl, trivial⟩ (hr_132 x1 x2 x3 h4 hL hF)
set_option maxHeartbeats 4000000 in
set_option maxRecDepth 100000 in
theorem t_X12_sits_3 (E : xE) (d : Nat) (rec : Rk) (r : Int × Hp) (hr_132 : ∀ (x1 x2 x3 : Int) (h : Hp), Lay h → rec 4 [x1, x2, x3] h = some r → X E mX12_sits (d + 6) (0, 0) (0, 0) 132 [some (xr 12 0), some (xi x1), some (xi x2), some (xi x3), none, none] [] h (PoV r)) (x1 x2 x3 : Int) (h : Hp) (hL : Lay h) (hF : b_X12_sits_3 rec x1 x2 x3 h = some r) : X E mX12_sits (d + 6) (0, 0) (0, 0) 84 [some (xr 12 0), some (xi x1), some (xi x2), some (xi x3), none, none] [] h (PoV r) := by
  unfold b_X12_sits_3 at hF
  refine x_aload_n (i := 0) (b := 85) dX12_sits_84 rfl rfl rfl ?_
  refine x_getL (j := 0) (t := (100, 0, true)) (b := 88) fk_X12_142 dX12_sits_85 rfl hL rfl rfl rfl ?_
  refine x_iload_n (i := 3) (b := 89) dX12_sits_88 rfl rfl rfl ?_
  refine x_iload_n (i := 2) (b := 90) dX12_sits_89 rfl rfl rfl ?_
  refine x_aload_n (i := 0) (b := 91) dX12_sits_90 rfl rfl rfl ?_
  refine x_iload_n (i := 1) (b := 92) dX12_sits_91 rfl rfl rfl ?_
  refine x_iload_n (i := 3) (b := 93) dX12_sits_92 rfl rfl rfl ?_
  obtain ⟨v1, h2, hq, hF⟩ := bd_e hF
  refine x_callV (as := [xi x1, xi x3]) (rest := [xi x2, xi x3, xr 100 0]) (b := 96) (c_X12_platesOf (d + 4) x1 x3 h _ hL hq) dX12_sits_93 cw_X12_426 ⟨_, _, rfl, Nat.le_of_ble_eq_true rfl⟩ rfl rfl (Nat.le_of_ble_eq_true rfl) ⟨Nat.le_refl _, Nat.le_refl _⟩ rfl (fun rv hh hp _ => ?_)
  obtain ⟨rfl, rfl, hL⟩ := hp
  refine x_min (b := 99) dX12_sits_96 mw_X12_429 (Nat.le_of_ble_eq_true rfl) ⟨Nat.le_refl _, Nat.le_refl _⟩ rfl ?_
  obtain ⟨hs, hF⟩ := ck_e hF
  have hs1 := hs
  refine x_iast (b := 100) ak_100 dX12_sits_99 hs1 rfl ?_
  obtain ⟨h3, e_h3, hF⟩ := lt_e hF
  refine x_hp (h2 := h3) e_h3 ?_
  replace hL : Lay h3 := by rw [← e_h3]; exact hL
  refine x_aload_n (i := 0) (b := 101) dX12_sits_100 rfl rfl rfl ?_
  refine x_dup (b := 102) dX12_sits_101 rfl rfl ?_
  refine x_getI (v := gI h3 12 0 64) (b := 105) fk_X12_419 dX12_sits_102 (by decide) rfl rfl ?_
  refine x_aload_n (i := 0) (b := 106) dX12_sits_105 rfl rfl rfl ?_
  refine x_getL (j := 0) (t := (100, 0, true)) (b := 109) fk_X12_142 dX12_sits_106 rfl hL rfl rfl rfl ?_
  refine x_iload_n (i := 3) (b := 110) dX12_sits_109 rfl rfl rfl ?_
  obtain ⟨hs, hF⟩ := ck_e hF
  refine x_iald (v := gI h3 100 0 x3) (b := 111) ak_100 dX12_sits_110 hs rfl rfl ?_
  obtain ⟨hs, hF⟩ := ck_e hF
  refine x_iadd (b := 112) dX12_sits_111 hs rfl ?_
  refine x_putI (b := 115) fk_X12_419 dX12_sits_112 rfl rfl 64 rfl ?_
  obtain ⟨h4, e_h4, hF⟩ := lt_e hF
  refine x_hp (h2 := h4) e_h4 ?_
  replace hL : Lay h4 := by rw [← e_h4]; exact hL
  refine x_aload_n (i := 0) (b := 116) dX12_sits_115 rfl rfl rfl ?_
  refine x_getI (v := gI h4 12 0 55) (b := 119) fk_X12_129 dX12_sits_116 (by decide) rfl rfl ?_
  refine x_iconst (n := 4) (b := 120) dX12_sits_119 (by decide) rfl ?_
  refine x_icmp_eq (tgt := 132) (b := 123) dX12_sits_120 (by decide) rfl (fun hc => ?_) (fun hc => ?_)
  · replace hF := br_T hc hF
    exact x_dp (ls2 := [some (xr 12 0), some (xi x1), some (xi x2), some (xi x3), none, none]) ⟨rfl, rfl, rfl, rfl, trivial⟩ (hr_132 x1 x2 x3 h4 hL hF)
  · replace hF := br_F hc hF
    refine x_iload_n (i := 2) (b := 124) dX12_sits_123 rfl rfl rfl ?_
    refine x_aload_n (i := 0) (b := 125) dX12_sits_124 rfl rfl rfl ?_
    refine x_getL (j := 0) (t := (100, 0, true)) (b := 128) fk_X12_142 dX12_sits_125 rfl hL rfl rfl rfl ?_
    refine x_iload_n (i := 3) (b := 129) dX12_sits_128 rfl rfl rfl ?_
    obtain ⟨hs, hF⟩ := ck_e hF
    refine x_iald (v := gI h4 100 0 x3) (b := 130) ak_100 dX12_sits_129 hs rfl rfl ?_
    obtain ⟨hs, hF⟩ := ck_e hF
    refine x_isub (b := 131) dX12_sits_130 hs rfl ?_
    obtain ⟨z5, e_z5, hF⟩ := lt_e hF
    refine x_eq (y := z5) e_z5 ?_
    refine x_istore_n (i := 2) (b := 132) (ls2 := [some (xr 12 0), some (xi x1), some (xi z5), some (xi x3), none, none]) dX12_sits_131 rfl (Nat.le_of_ble_eq_true rfl) rfl rfl ?_
    exact x_dp (ls2 := [some (xr 12 0), some (xi x1), some (xi z5), some (xi x3), none, none]) ⟨rfl, rfl, rfl, rfl, trivial⟩ (hr_132 x1 z5 x3 h4 hL hF)
set_option maxHeartbeats 4000000 in
set_option maxRecDepth 100000 in
theorem t_X12_sits_4 (E : xE) (d : Nat) (rec : Rk) (r : Int × Hp) (hr_34 : ∀ (x1 x2 x3 : Int) (h : Hp), Lay h → rec 2 [x1, x2, x3] h = some r → X E mX12_sits (d + 6) (0, 0) (0, 0) 34 [some (xr 12 0), some (xi x1), some (xi x2), some (xi x3), none, none] [] h (PoV r)) (x1 x2 x3 : Int) (h : Hp) (hL : Lay h) (hF : b_X12_sits_4 rec x1 x2 x3 h = some r) : X E mX12_sits (d + 6) (0, 0) (0, 0) 132 [some (xr 12 0), some (xi x1), some (xi x2), some (xi x3), none, none] [] h (PoV r) := by
  unfold b_X12_sits_4 at hF
  obtain ⟨hs, hF⟩ := ck_e hF
  refine x_iinc (i := 3) (b := 135) (ls2 := [some (xr 12 0), some (xi x1), some (xi x2), some (xi (x3 + 1)), none, none]) dX12_sits_132 rfl (Nat.le_of_ble_eq_true rfl) hs rfl rfl ?_
  refine x_goto (tgt := 34) dX12_sits_135 (by decide) ?_
  exact x_dp (ls2 := [some (xr 12 0), some (xi x1), some (xi x2), some (xi (x3 + 1)), none, none]) ⟨rfl, rfl, rfl, rfl, trivial⟩ (hr_34 x1 x2 (x3 + 1) h hL hF)
set_option maxHeartbeats 4000000 in
set_option maxRecDepth 100000 in
theorem t_X12_sits_5 (E : xE) (d : Nat) (rec : Rk) (r : Int × Hp) (hr_212 : ∀ (x1 x3 : Int) (h : Hp), Lay h → rec 6 [x1, x3] h = some r → X E mX12_sits (d + 6) (0, 0) (0, 0) 212 [some (xr 12 0), some (xi x1), none, some (xi x3), none, none] [] h (PoV r)) (hr_220 : ∀ (x1 x3 : Int) (h : Hp), Lay h → rec 7 [x1, x3] h = some r → X E mX12_sits (d + 6) (0, 0) (0, 0) 220 [some (xr 12 0), some (xi x1), none, some (xi x3), none, none] [] h (PoV r)) (x1 x3 : Int) (h : Hp) (hL : Lay h) (hF : b_X12_sits_5 rec x1 x3 h = some r) : X E mX12_sits (d + 6) (0, 0) (0, 0) 140 [some (xr 12 0), some (xi x1), none, some (xi x3), none, none] [] h (PoV r) := by
  unfold b_X12_sits_5 at hF
  refine x_iload_n (i := 3) (b := 141) dX12_sits_140 rfl rfl rfl ?_
  refine x_bipush (n := 9) (b := 143) dX12_sits_141 (by decide) rfl ?_
  refine x_icmp_ge (tgt := 218) (b := 146) dX12_sits_143 (by decide) rfl (fun hc => ?_) (fun hc => ?_)
  · replace hF := br_T hc hF
    refine x_iconst (n := 0) (b := 219) dX12_sits_218 (by decide) rfl ?_
    refine x_istore_n (i := 3) (b := 220) (ls2 := [some (xr 12 0), some (xi x1), none, some (xi 0), none, none]) dX12_sits_219 rfl (Nat.le_of_ble_eq_true rfl) rfl rfl ?_
    exact x_dp (ls2 := [some (xr 12 0), some (xi x1), none, some (xi 0), none, none]) ⟨rfl, rfl, rfl, trivial⟩ (hr_220 x1 0 h hL hF)
  · replace hF := br_F hc hF
    refine x_aload_n (i := 0) (b := 147) dX12_sits_146 rfl rfl rfl ?_
    refine x_getL (j := 0) (t := (100, 0, true)) (b := 150) fk_X12_142 dX12_sits_147 rfl hL rfl rfl rfl ?_
    refine x_iload_n (i := 3) (b := 151) dX12_sits_150 rfl rfl rfl ?_
    obtain ⟨hs, hF⟩ := ck_e hF
    refine x_iald (v := gI h 100 0 x3) (b := 152) ak_100 dX12_sits_151 hs rfl rfl ?_
    refine x_if_ne (tgt := 158) (b := 155) dX12_sits_152 (by decide) rfl (fun hc => ?_) (fun hc => ?_)
    · replace hF := br_F hc hF
      refine x_aload_n (i := 0) (b := 159) dX12_sits_158 rfl rfl rfl ?_
      refine x_getL (j := 0) (t := (101, 0, true)) (b := 162) fk_X12_145 dX12_sits_159 rfl hL rfl rfl rfl ?_
      refine x_iload_n (i := 3) (b := 163) dX12_sits_162 rfl rfl rfl ?_
      refine x_aload_n (i := 0) (b := 164) dX12_sits_163 rfl rfl rfl ?_
      refine x_iload_n (i := 1) (b := 165) dX12_sits_164 rfl rfl rfl ?_
      refine x_iload_n (i := 3) (b := 166) dX12_sits_165 rfl rfl rfl ?_
      refine x_aload_n (i := 0) (b := 167) dX12_sits_166 rfl rfl rfl ?_
      refine x_getL (j := 0) (t := (100, 0, true)) (b := 170) fk_X12_142 dX12_sits_167 rfl hL rfl rfl rfl ?_
      refine x_iload_n (i := 3) (b := 171) dX12_sits_170 rfl rfl rfl ?_
      obtain ⟨hs, hF⟩ := ck_e hF
      refine x_iald (v := gI h 100 0 x3) (b := 172) ak_100 dX12_sits_171 hs rfl rfl ?_
      refine x_aload_n (i := 0) (b := 173) dX12_sits_172 rfl rfl rfl ?_
      refine x_getL (j := 0) (t := (86, 0, true)) (b := 176) fk_X12_93 dX12_sits_173 rfl hL rfl rfl rfl ?_
      refine x_iload_n (i := 1) (b := 177) dX12_sits_176 rfl rfl rfl ?_
      obtain ⟨hs, hF⟩ := ck_e hF
      refine x_iald (v := gI h 86 0 x1) (b := 178) ak_86 dX12_sits_177 hs rfl rfl ?_
      obtain ⟨v1, h2, hq, hF⟩ := bd_e hF
      refine x_callV (as := [xi x1, xi x3, xi (gI h 100 0 x3), xi (gI h 86 0 x1)]) (rest := [xi x3, xr 101 0]) (b := 181) (c_X12_votesFor d x1 x3 (gI h 100 0 x3) (gI h 86 0 x1) h _ hL hq) dX12_sits_178 cw_X12_432 ⟨_, _, rfl, Nat.le_of_ble_eq_true rfl⟩ rfl rfl (Nat.le_of_ble_eq_true rfl) ⟨Nat.le_refl _, Nat.le_refl _⟩ rfl (fun rv hh hp _ => ?_)
      obtain ⟨rfl, rfl, hL⟩ := hp
      obtain ⟨hs, hF⟩ := ck_e hF
      have hs1 := hs
      refine x_iast (b := 182) ak_101 dX12_sits_181 hs1 rfl ?_
      obtain ⟨h3, e_h3, hF⟩ := lt_e hF
      refine x_hp (h2 := h3) e_h3 ?_
      replace hL : Lay h3 := by rw [← e_h3]; exact hL
      refine x_aload_n (i := 0) (b := 183) dX12_sits_182 rfl rfl rfl ?_
      refine x_getL (j := 0) (t := (101, 0, true)) (b := 186) fk_X12_145 dX12_sits_183 rfl hL rfl rfl rfl ?_
      refine x_iload_n (i := 3) (b := 187) dX12_sits_186 rfl rfl rfl ?_
      obtain ⟨hs, hF⟩ := ck_e hF
      refine x_iald (v := gI h3 101 0 x3) (b := 188) ak_101 dX12_sits_187 hs rfl rfl ?_
      refine x_iconst (n := (-1)) (b := 189) dX12_sits_188 (by decide) rfl ?_
      refine x_icmp_eq (tgt := 212) (b := 192) dX12_sits_189 (by decide) rfl (fun hc => ?_) (fun hc => ?_)
      · replace hF := br_T hc hF
        exact x_dp (ls2 := [some (xr 12 0), some (xi x1), none, some (xi x3), none, none]) ⟨rfl, rfl, rfl, trivial⟩ (hr_212 x1 x3 h3 hL hF)
      · replace hF := br_F hc hF
        refine x_aload_n (i := 0) (b := 193) dX12_sits_192 rfl rfl rfl ?_
        refine x_getL (j := 0) (t := (102, 0, true)) (b := 196) fk_X12_148 dX12_sits_193 rfl hL rfl rfl rfl ?_
        refine x_aload_n (i := 0) (b := 197) dX12_sits_196 rfl rfl rfl ?_
        refine x_getL (j := 0) (t := (101, 0, true)) (b := 200) fk_X12_145 dX12_sits_197 rfl hL rfl rfl rfl ?_
        refine x_iload_n (i := 3) (b := 201) dX12_sits_200 rfl rfl rfl ?_
        obtain ⟨hs, hF⟩ := ck_e hF
        refine x_iald (v := gI h3 101 0 x3) (b := 202) ak_101 dX12_sits_201 hs rfl rfl ?_
        refine x_dup2 (b := 203) dX12_sits_202 rfl rfl rfl ?_
        obtain ⟨hs, hF⟩ := ck_e hF
        refine x_iald (v := gI h3 102 0 (gI h3 101 0 x3)) (b := 204) ak_102 dX12_sits_203 hs rfl rfl ?_
        refine x_aload_n (i := 0) (b := 205) dX12_sits_204 rfl rfl rfl ?_
        refine x_getL (j := 0) (t := (100, 0, true)) (b := 208) fk_X12_142 dX12_sits_205 rfl hL rfl rfl rfl ?_
        refine x_iload_n (i := 3) (b := 209) dX12_sits_208 rfl rfl rfl ?_
        obtain ⟨hs, hF⟩ := ck_e hF
        refine x_iald (v := gI h3 100 0 x3) (b := 210) ak_100 dX12_sits_209 hs rfl rfl ?_
        obtain ⟨hs, hF⟩ := ck_e hF
        refine x_iadd (b := 211) dX12_sits_210 hs rfl ?_
        obtain ⟨hs, hF⟩ := ck_e hF
        have hs1 := hs
        refine x_iast (b := 212) ak_102 dX12_sits_211 hs1 rfl ?_
        obtain ⟨h4, e_h4, hF⟩ := lt_e hF
        refine x_hp (h2 := h4) e_h4 ?_
        replace hL : Lay h4 := by rw [← e_h4]; exact hL
        exact x_dp (ls2 := [some (xr 12 0), some (xi x1), none, some (xi x3), none, none]) ⟨rfl, rfl, rfl, trivial⟩ (hr_212 x1 x3 h4 hL hF)
    · replace hF := br_T hc hF
      refine x_goto (tgt := 212) dX12_sits_155 (by decide) ?_
      exact x_dp (ls2 := [some (xr 12 0), some (xi x1), none, some (xi x3), none, none]) ⟨rfl, rfl, rfl, trivial⟩ (hr_212 x1 x3 h hL hF)
set_option maxHeartbeats 4000000 in
set_option maxRecDepth 100000 in
theorem t_X12_sits_6 (E : xE) (d : Nat) (rec : Rk) (r : Int × Hp) (hr_140 : ∀ (x1 x3 : Int) (h : Hp), Lay h → rec 5 [x1, x3] h = some r → X E mX12_sits (d + 6) (0, 0) (0, 0) 140 [some (xr 12 0), some (xi x1), none, some (xi x3), none, none] [] h (PoV r)) (x1 x3 : Int) (h : Hp) (hL : Lay h) (hF : b_X12_sits_6 rec x1 x3 h = some r) : X E mX12_sits (d + 6) (0, 0) (0, 0) 212 [some (xr 12 0), some (xi x1), none, some (xi x3), none, none] [] h (PoV r) := by
  unfold b_X12_sits_6 at hF
  obtain ⟨hs, hF⟩ := ck_e hF
  refine x_iinc (i := 3) (b := 215) (ls2 := [some (xr 12 0), some (xi x1), none, some (xi (x3 + 1)), none, none]) dX12_sits_212 rfl (Nat.le_of_ble_eq_true rfl) hs rfl rfl ?_
  refine x_goto (tgt := 140) dX12_sits_215 (by decide) ?_
  exact x_dp (ls2 := [some (xr 12 0), some (xi x1), none, some (xi (x3 + 1)), none, none]) ⟨rfl, rfl, rfl, trivial⟩ (hr_140 x1 (x3 + 1) h hL hF)
set_option maxHeartbeats 4000000 in
set_option maxRecDepth 100000 in
theorem t_X12_sits_7 (E : xE) (d : Nat) (rec : Rk) (r : Int × Hp) (hr_314 : ∀ (x1 x3 : Int) (h : Hp), Lay h → rec 8 [x1, x3] h = some r → X E mX12_sits (d + 6) (0, 0) (0, 0) 314 [some (xr 12 0), some (xi x1), none, some (xi x3), none, none] [] h (PoV r)) (hr_320 : ∀ (x1 : Int) (h : Hp), Lay h → rec 9 [x1] h = some r → X E mX12_sits (d + 6) (0, 0) (0, 0) 320 [some (xr 12 0), some (xi x1), none, none, none, none] [] h (PoV r)) (x1 x3 : Int) (h : Hp) (hL : Lay h) (hF : b_X12_sits_7 rec x1 x3 h = some r) : X E mX12_sits (d + 6) (0, 0) (0, 0) 220 [some (xr 12 0), some (xi x1), none, some (xi x3), none, none] [] h (PoV r) := by
  unfold b_X12_sits_7 at hF
  refine x_iload_n (i := 3) (b := 221) dX12_sits_220 rfl rfl rfl ?_
  refine x_aload_n (i := 0) (b := 222) dX12_sits_221 rfl rfl rfl ?_
  refine x_getL (j := 0) (t := (61, 0, true)) (b := 225) fk_X12_13 dX12_sits_222 rfl hL rfl rfl rfl ?_
  refine x_iconst (n := 5) (b := 226) dX12_sits_225 (by decide) rfl ?_
  obtain ⟨hs, hF⟩ := ck_e hF
  refine x_iald (v := gI h 61 0 5) (b := 227) ak_61 dX12_sits_226 hs rfl rfl ?_
  refine x_icmp_ge (tgt := 320) (b := 230) dX12_sits_227 (by decide) rfl (fun hc => ?_) (fun hc => ?_)
  · replace hF := br_T hc hF
    exact x_dp (ls2 := [some (xr 12 0), some (xi x1), none, none, none, none]) ⟨rfl, rfl, trivial⟩ (hr_320 x1 h hL hF)
  · replace hF := br_F hc hF
    refine x_aload_n (i := 0) (b := 231) dX12_sits_230 rfl rfl rfl ?_
    refine x_getI (v := gI h 12 0 55) (b := 234) fk_X12_129 dX12_sits_231 (by decide) rfl rfl ?_
    refine x_iconst (n := 1) (b := 235) dX12_sits_234 (by decide) rfl ?_
    refine x_icmp_eq (tgt := 320) (b := 238) dX12_sits_235 (by decide) rfl (fun hc => ?_) (fun hc => ?_)
    · replace hF := br_T hc hF
      exact x_dp (ls2 := [some (xr 12 0), some (xi x1), none, none, none, none]) ⟨rfl, rfl, trivial⟩ (hr_320 x1 h hL hF)
    · replace hF := br_F hc hF
      refine x_aload_n (i := 0) (b := 239) dX12_sits_238 rfl rfl rfl ?_
      refine x_getL (j := 0) (t := (83, 0, true)) (b := 242) fk_X12_84 dX12_sits_239 rfl hL rfl rfl rfl ?_
      refine x_bipush (n := 64) (b := 244) dX12_sits_242 (by decide) rfl ?_
      refine x_aload_n (i := 0) (b := 245) dX12_sits_244 rfl rfl rfl ?_
      refine x_getL (j := 0) (t := (64, 0, true)) (b := 248) fk_X12_23 dX12_sits_245 rfl hL rfl rfl rfl ?_
      refine x_iload_n (i := 3) (b := 249) dX12_sits_248 rfl rfl rfl ?_
      obtain ⟨hs, hF⟩ := ck_e hF
      refine x_iald (v := gI h 64 0 x3) (b := 250) ak_64 dX12_sits_249 hs rfl rfl ?_
      obtain ⟨hs, hF⟩ := ck_e hF
      refine x_imul (b := 251) dX12_sits_250 hs rfl ?_
      refine x_aload_n (i := 0) (b := 252) dX12_sits_251 rfl rfl rfl ?_
      refine x_getL (j := 0) (t := (85, 0, true)) (b := 255) fk_X12_90 dX12_sits_252 rfl hL rfl rfl rfl ?_
      refine x_iload_n (i := 1) (b := 256) dX12_sits_255 rfl rfl rfl ?_
      obtain ⟨hs, hF⟩ := ck_e hF
      refine x_iald (v := gI h 85 0 x1) (b := 257) ak_85 dX12_sits_256 hs rfl rfl ?_
      obtain ⟨hs, hF⟩ := ck_e hF
      refine x_iadd (b := 258) dX12_sits_257 hs rfl ?_
      obtain ⟨hs, hF⟩ := ck_e hF
      refine x_iald (v := gI h 83 0 ((64 * (gI h 64 0 x3)) + (gI h 85 0 x1))) (b := 259) ak_83 dX12_sits_258 hs rfl rfl ?_
      obtain ⟨z1, e_z1, hF⟩ := lt_e hF
      refine x_eq (y := z1) e_z1 ?_
      refine x_istore (i := 4) (b := 261) (ls2 := [some (xr 12 0), some (xi x1), none, some (xi x3), some (xi z1), none]) dX12_sits_259 (Nat.le_of_ble_eq_true rfl) rfl rfl ?_
      refine x_aload_n (i := 0) (b := 262) dX12_sits_261 rfl rfl rfl ?_
      refine x_iload_n (i := 1) (b := 263) dX12_sits_262 rfl rfl rfl ?_
      refine x_aload_n (i := 0) (b := 264) dX12_sits_263 rfl rfl rfl ?_
      refine x_getL (j := 0) (t := (64, 0, true)) (b := 267) fk_X12_23 dX12_sits_264 rfl hL rfl rfl rfl ?_
      refine x_iload_n (i := 3) (b := 268) dX12_sits_267 rfl rfl rfl ?_
      obtain ⟨hs, hF⟩ := ck_e hF
      refine x_iald (v := gI h 64 0 x3) (b := 269) ak_64 dX12_sits_268 hs rfl rfl ?_
      obtain ⟨v2, h3, hq, hF⟩ := bd_e hF
      refine x_callV (as := [xi x1, xi (gI h 64 0 x3)]) (rest := []) (b := 272) (c_X12_nearest (d + 3) x1 (gI h 64 0 x3) h _ hL hq) dX12_sits_269 cw_X12_436 ⟨_, _, rfl, Nat.le_of_ble_eq_true rfl⟩ rfl rfl (Nat.le_of_ble_eq_true rfl) ⟨Nat.le_refl _, Nat.le_refl _⟩ rfl (fun rv hh hp _ => ?_)
      obtain ⟨rfl, rfl, hL⟩ := hp
      refine x_istore (i := 5) (b := 274) (ls2 := [some (xr 12 0), some (xi x1), none, some (xi x3), some (xi z1), some (xi v2)]) dX12_sits_272 (Nat.le_of_ble_eq_true rfl) rfl rfl ?_
      refine x_iload (i := 4) (b := 276) dX12_sits_274 rfl rfl ?_
      refine x_bipush (n := 99) (b := 278) dX12_sits_276 (by decide) rfl ?_
      refine x_icmp_ge (tgt := 314) (b := 281) dX12_sits_278 (by decide) rfl (fun hc => ?_) (fun hc => ?_)
      · replace hF := br_T hc hF
        exact x_dp (ls2 := [some (xr 12 0), some (xi x1), none, some (xi x3), none, none]) ⟨rfl, rfl, rfl, trivial⟩ (hr_314 x1 x3 h3 hL hF)
      · replace hF := br_F hc hF
        refine x_iload (i := 4) (b := 283) dX12_sits_281 rfl rfl ?_
        refine x_aload_n (i := 0) (b := 284) dX12_sits_283 rfl rfl rfl ?_
        refine x_getL (j := 0) (t := (65, 0, true)) (b := 287) fk_X12_26 dX12_sits_284 rfl hL rfl rfl rfl ?_
        refine x_iload_n (i := 3) (b := 288) dX12_sits_287 rfl rfl rfl ?_
        obtain ⟨hs, hF⟩ := ck_e hF
        refine x_iald (v := gI h3 65 0 x3) (b := 289) ak_65 dX12_sits_288 hs rfl rfl ?_
        refine x_icmp_gt (tgt := 314) (b := 292) dX12_sits_289 (by decide) rfl (fun hc => ?_) (fun hc => ?_)
        · replace hF := br_T hc hF
          exact x_dp (ls2 := [some (xr 12 0), some (xi x1), none, some (xi x3), none, none]) ⟨rfl, rfl, rfl, trivial⟩ (hr_314 x1 x3 h3 hL hF)
        · replace hF := br_F hc hF
          refine x_iload (i := 5) (b := 294) dX12_sits_292 rfl rfl ?_
          refine x_iconst (n := (-1)) (b := 295) dX12_sits_294 (by decide) rfl ?_
          refine x_icmp_eq (tgt := 314) (b := 298) dX12_sits_295 (by decide) rfl (fun hc => ?_) (fun hc => ?_)
          · replace hF := br_T hc hF
            exact x_dp (ls2 := [some (xr 12 0), some (xi x1), none, some (xi x3), none, none]) ⟨rfl, rfl, rfl, trivial⟩ (hr_314 x1 x3 h3 hL hF)
          · replace hF := br_F hc hF
            refine x_aload_n (i := 0) (b := 299) dX12_sits_298 rfl rfl rfl ?_
            refine x_getL (j := 0) (t := (102, 0, true)) (b := 302) fk_X12_148 dX12_sits_299 rfl hL rfl rfl rfl ?_
            refine x_iload (i := 5) (b := 304) dX12_sits_302 rfl rfl ?_
            refine x_dup2 (b := 305) dX12_sits_304 rfl rfl rfl ?_
            obtain ⟨hs, hF⟩ := ck_e hF
            refine x_iald (v := gI h3 102 0 v2) (b := 306) ak_102 dX12_sits_305 hs rfl rfl ?_
            refine x_aload_n (i := 0) (b := 307) dX12_sits_306 rfl rfl rfl ?_
            refine x_getL (j := 0) (t := (66, 0, true)) (b := 310) fk_X12_29 dX12_sits_307 rfl hL rfl rfl rfl ?_
            refine x_iload_n (i := 3) (b := 311) dX12_sits_310 rfl rfl rfl ?_
            obtain ⟨hs, hF⟩ := ck_e hF
            refine x_iald (v := gI h3 66 0 x3) (b := 312) ak_66 dX12_sits_311 hs rfl rfl ?_
            obtain ⟨hs, hF⟩ := ck_e hF
            refine x_iadd (b := 313) dX12_sits_312 hs rfl ?_
            obtain ⟨hs, hF⟩ := ck_e hF
            have hs1 := hs
            refine x_iast (b := 314) ak_102 dX12_sits_313 hs1 rfl ?_
            obtain ⟨h4, e_h4, hF⟩ := lt_e hF
            refine x_hp (h2 := h4) e_h4 ?_
            replace hL : Lay h4 := by rw [← e_h4]; exact hL
            exact x_dp (ls2 := [some (xr 12 0), some (xi x1), none, some (xi x3), none, none]) ⟨rfl, rfl, rfl, trivial⟩ (hr_314 x1 x3 h4 hL hF)
set_option maxHeartbeats 4000000 in
set_option maxRecDepth 100000 in
theorem t_X12_sits_8 (E : xE) (d : Nat) (rec : Rk) (r : Int × Hp) (hr_220 : ∀ (x1 x3 : Int) (h : Hp), Lay h → rec 7 [x1, x3] h = some r → X E mX12_sits (d + 6) (0, 0) (0, 0) 220 [some (xr 12 0), some (xi x1), none, some (xi x3), none, none] [] h (PoV r)) (x1 x3 : Int) (h : Hp) (hL : Lay h) (hF : b_X12_sits_8 rec x1 x3 h = some r) : X E mX12_sits (d + 6) (0, 0) (0, 0) 314 [some (xr 12 0), some (xi x1), none, some (xi x3), none, none] [] h (PoV r) := by
  unfold b_X12_sits_8 at hF
  obtain ⟨hs, hF⟩ := ck_e hF
  refine x_iinc (i := 3) (b := 317) (ls2 := [some (xr 12 0), some (xi x1), none, some (xi (x3 + 1)), none, none]) dX12_sits_314 rfl (Nat.le_of_ble_eq_true rfl) hs rfl rfl ?_
  refine x_goto (tgt := 220) dX12_sits_317 (by decide) ?_
  exact x_dp (ls2 := [some (xr 12 0), some (xi x1), none, some (xi (x3 + 1)), none, none]) ⟨rfl, rfl, rfl, trivial⟩ (hr_220 x1 (x3 + 1) h hL hF)
set_option maxHeartbeats 4000000 in
set_option maxRecDepth 100000 in
theorem t_X12_sits_9 (E : xE) (d : Nat) (rec : Rk) (r : Int × Hp) (hr_322 : ∀ (x1 x3 : Int) (h : Hp), Lay h → rec 10 [x1, x3] h = some r → X E mX12_sits (d + 6) (0, 0) (0, 0) 322 [some (xr 12 0), some (xi x1), none, some (xi x3), none, none] [] h (PoV r)) (x1 : Int) (h : Hp) (hL : Lay h) (hF : b_X12_sits_9 rec x1 h = some r) : X E mX12_sits (d + 6) (0, 0) (0, 0) 320 [some (xr 12 0), some (xi x1), none, none, none, none] [] h (PoV r) := by
  unfold b_X12_sits_9 at hF
  refine x_iconst (n := 0) (b := 321) dX12_sits_320 (by decide) rfl ?_
  refine x_istore_n (i := 3) (b := 322) (ls2 := [some (xr 12 0), some (xi x1), none, some (xi 0), none, none]) dX12_sits_321 rfl (Nat.le_of_ble_eq_true rfl) rfl rfl ?_
  exact x_dp (ls2 := [some (xr 12 0), some (xi x1), none, some (xi 0), none, none]) ⟨rfl, rfl, rfl, trivial⟩ (hr_322 x1 0 h hL hF)
set_option maxHeartbeats 4000000 in
set_option maxRecDepth 100000 in
theorem t_X12_sits_10 (E : xE) (d : Nat) (rec : Rk) (r : Int × Hp) (hr_376 : ∀ (x1 x3 : Int) (h : Hp), Lay h → rec 11 [x1, x3] h = some r → X E mX12_sits (d + 6) (0, 0) (0, 0) 376 [some (xr 12 0), some (xi x1), none, some (xi x3), none, none] [] h (PoV r)) (x1 x3 : Int) (h : Hp) (hL : Lay h) (hF : b_X12_sits_10 rec x1 x3 h = some r) : X E mX12_sits (d + 6) (0, 0) (0, 0) 322 [some (xr 12 0), some (xi x1), none, some (xi x3), none, none] [] h (PoV r) := by
  unfold b_X12_sits_10 at hF
  refine x_iload_n (i := 3) (b := 323) dX12_sits_322 rfl rfl rfl ?_
  refine x_aload_n (i := 0) (b := 324) dX12_sits_323 rfl rfl rfl ?_
  refine x_getL (j := 0) (t := (61, 0, true)) (b := 327) fk_X12_13 dX12_sits_324 rfl hL rfl rfl rfl ?_
  refine x_bipush (n := 7) (b := 329) dX12_sits_327 (by decide) rfl ?_
  obtain ⟨hs, hF⟩ := ck_e hF
  refine x_iald (v := gI h 61 0 7) (b := 330) ak_61 dX12_sits_329 hs rfl rfl ?_
  refine x_icmp_ge (tgt := 382) (b := 333) dX12_sits_330 (by decide) rfl (fun hc => ?_) (fun hc => ?_)
  · replace hF := br_T hc hF
    refine x_return dX12_sits_382 rfl ⟨Nat.le_refl _, Nat.le_refl _⟩ ?_
    cases hF
    exact ⟨rfl, rfl, hL⟩
  · replace hF := br_F hc hF
    refine x_aload_n (i := 0) (b := 334) dX12_sits_333 rfl rfl rfl ?_
    refine x_getI (v := gI h 12 0 55) (b := 337) fk_X12_129 dX12_sits_334 (by decide) rfl rfl ?_
    refine x_iconst (n := 2) (b := 338) dX12_sits_337 (by decide) rfl ?_
    refine x_icmp_eq (tgt := 382) (b := 341) dX12_sits_338 (by decide) rfl (fun hc => ?_) (fun hc => ?_)
    · replace hF := br_T hc hF
      refine x_return dX12_sits_382 rfl ⟨Nat.le_refl _, Nat.le_refl _⟩ ?_
      cases hF
      exact ⟨rfl, rfl, hL⟩
    · replace hF := br_F hc hF
      refine x_aload_n (i := 0) (b := 342) dX12_sits_341 rfl rfl rfl ?_
      refine x_getL (j := 0) (t := (68, 0, true)) (b := 345) fk_X12_35 dX12_sits_342 rfl hL rfl rfl rfl ?_
      refine x_iload_n (i := 3) (b := 346) dX12_sits_345 rfl rfl rfl ?_
      obtain ⟨hs, hF⟩ := ck_e hF
      refine x_iald (v := gI h 68 0 x3) (b := 347) ak_68 dX12_sits_346 hs rfl rfl ?_
      refine x_aload_n (i := 0) (b := 348) dX12_sits_347 rfl rfl rfl ?_
      refine x_getL (j := 0) (t := (84, 0, true)) (b := 351) fk_X12_87 dX12_sits_348 rfl hL rfl rfl rfl ?_
      refine x_iload_n (i := 1) (b := 352) dX12_sits_351 rfl rfl rfl ?_
      obtain ⟨hs, hF⟩ := ck_e hF
      refine x_iald (v := gI h 84 0 x1) (b := 353) ak_84 dX12_sits_352 hs rfl rfl ?_
      refine x_icmp_ne (tgt := 376) (b := 356) dX12_sits_353 (by decide) rfl (fun hc => ?_) (fun hc => ?_)
      · replace hF := br_F hc hF
        exact x_dp (ls2 := [some (xr 12 0), some (xi x1), none, some (xi x3), none, none]) ⟨rfl, rfl, rfl, trivial⟩ (hr_376 x1 x3 h hL hF)
      · replace hF := br_T hc hF
        refine x_aload_n (i := 0) (b := 357) dX12_sits_356 rfl rfl rfl ?_
        refine x_getL (j := 0) (t := (102, 0, true)) (b := 360) fk_X12_148 dX12_sits_357 rfl hL rfl rfl rfl ?_
        refine x_aload_n (i := 0) (b := 361) dX12_sits_360 rfl rfl rfl ?_
        refine x_getL (j := 0) (t := (69, 0, true)) (b := 364) fk_X12_38 dX12_sits_361 rfl hL rfl rfl rfl ?_
        refine x_iload_n (i := 3) (b := 365) dX12_sits_364 rfl rfl rfl ?_
        obtain ⟨hs, hF⟩ := ck_e hF
        refine x_iald (v := gI h 69 0 x3) (b := 366) ak_69 dX12_sits_365 hs rfl rfl ?_
        refine x_dup2 (b := 367) dX12_sits_366 rfl rfl rfl ?_
        obtain ⟨hs, hF⟩ := ck_e hF
        refine x_iald (v := gI h 102 0 (gI h 69 0 x3)) (b := 368) ak_102 dX12_sits_367 hs rfl rfl ?_
        refine x_aload_n (i := 0) (b := 369) dX12_sits_368 rfl rfl rfl ?_
        refine x_getL (j := 0) (t := (70, 0, true)) (b := 372) fk_X12_41 dX12_sits_369 rfl hL rfl rfl rfl ?_
        refine x_iload_n (i := 3) (b := 373) dX12_sits_372 rfl rfl rfl ?_
        obtain ⟨hs, hF⟩ := ck_e hF
        refine x_iald (v := gI h 70 0 x3) (b := 374) ak_70 dX12_sits_373 hs rfl rfl ?_
        obtain ⟨hs, hF⟩ := ck_e hF
        refine x_iadd (b := 375) dX12_sits_374 hs rfl ?_
        obtain ⟨hs, hF⟩ := ck_e hF
        have hs1 := hs
        refine x_iast (b := 376) ak_102 dX12_sits_375 hs1 rfl ?_
        obtain ⟨h1, e_h1, hF⟩ := lt_e hF
        refine x_hp (h2 := h1) e_h1 ?_
        replace hL : Lay h1 := by rw [← e_h1]; exact hL
        exact x_dp (ls2 := [some (xr 12 0), some (xi x1), none, some (xi x3), none, none]) ⟨rfl, rfl, rfl, trivial⟩ (hr_376 x1 x3 h1 hL hF)
set_option maxHeartbeats 4000000 in
set_option maxRecDepth 100000 in
theorem t_X12_sits_11 (E : xE) (d : Nat) (rec : Rk) (r : Int × Hp) (hr_322 : ∀ (x1 x3 : Int) (h : Hp), Lay h → rec 10 [x1, x3] h = some r → X E mX12_sits (d + 6) (0, 0) (0, 0) 322 [some (xr 12 0), some (xi x1), none, some (xi x3), none, none] [] h (PoV r)) (x1 x3 : Int) (h : Hp) (hL : Lay h) (hF : b_X12_sits_11 rec x1 x3 h = some r) : X E mX12_sits (d + 6) (0, 0) (0, 0) 376 [some (xr 12 0), some (xi x1), none, some (xi x3), none, none] [] h (PoV r) := by
  unfold b_X12_sits_11 at hF
  obtain ⟨hs, hF⟩ := ck_e hF
  refine x_iinc (i := 3) (b := 379) (ls2 := [some (xr 12 0), some (xi x1), none, some (xi (x3 + 1)), none, none]) dX12_sits_376 rfl (Nat.le_of_ble_eq_true rfl) hs rfl rfl ?_
  refine x_goto (tgt := 322) dX12_sits_379 (by decide) ?_
  exact x_dp (ls2 := [some (xr 12 0), some (xi x1), none, some (xi (x3 + 1)), none, none]) ⟨rfl, rfl, rfl, trivial⟩ (hr_322 x1 (x3 + 1) h hL hF)
set_option maxHeartbeats 4000000 in
set_option maxRecDepth 100000 in
theorem u_X12_sits (E : xE) (d : Nat) (r : Int × Hp) : ∀ n : Nat, (∀ (x1 : Int) (h : Hp), Lay h → g_X12_sits n 0 [x1] h = some r → X E mX12_sits (d + 6) (0, 0) (0, 0) 0 [some (xr 12 0), some (xi x1), none, none, none, none] [] h (PoV r)) ∧ (∀ (x1 x2 x3 : Int) (h : Hp), Lay h → g_X12_sits n 1 [x1, x2, x3] h = some r → X E mX12_sits (d + 6) (0, 0) (0, 0) 14 [some (xr 12 0), some (xi x1), some (xi x2), some (xi x3), none, none] [] h (PoV r)) ∧ (∀ (x1 x2 x3 : Int) (h : Hp), Lay h → g_X12_sits n 2 [x1, x2, x3] h = some r → X E mX12_sits (d + 6) (0, 0) (0, 0) 34 [some (xr 12 0), some (xi x1), some (xi x2), some (xi x3), none, none] [] h (PoV r)) ∧ (∀ (x1 x2 x3 : Int) (h : Hp), Lay h → g_X12_sits n 3 [x1, x2, x3] h = some r → X E mX12_sits (d + 6) (0, 0) (0, 0) 84 [some (xr 12 0), some (xi x1), some (xi x2), some (xi x3), none, none] [] h (PoV r)) ∧ (∀ (x1 x2 x3 : Int) (h : Hp), Lay h → g_X12_sits n 4 [x1, x2, x3] h = some r → X E mX12_sits (d + 6) (0, 0) (0, 0) 132 [some (xr 12 0), some (xi x1), some (xi x2), some (xi x3), none, none] [] h (PoV r)) ∧ (∀ (x1 x3 : Int) (h : Hp), Lay h → g_X12_sits n 5 [x1, x3] h = some r → X E mX12_sits (d + 6) (0, 0) (0, 0) 140 [some (xr 12 0), some (xi x1), none, some (xi x3), none, none] [] h (PoV r)) ∧ (∀ (x1 x3 : Int) (h : Hp), Lay h → g_X12_sits n 6 [x1, x3] h = some r → X E mX12_sits (d + 6) (0, 0) (0, 0) 212 [some (xr 12 0), some (xi x1), none, some (xi x3), none, none] [] h (PoV r)) ∧ (∀ (x1 x3 : Int) (h : Hp), Lay h → g_X12_sits n 7 [x1, x3] h = some r → X E mX12_sits (d + 6) (0, 0) (0, 0) 220 [some (xr 12 0), some (xi x1), none, some (xi x3), none, none] [] h (PoV r)) ∧ (∀ (x1 x3 : Int) (h : Hp), Lay h → g_X12_sits n 8 [x1, x3] h = some r → X E mX12_sits (d + 6) (0, 0) (0, 0) 314 [some (xr 12 0), some (xi x1), none, some (xi x3), none, none] [] h (PoV r)) ∧ (∀ (x1 : Int) (h : Hp), Lay h → g_X12_sits n 9 [x1] h = some r → X E mX12_sits (d + 6) (0, 0) (0, 0) 320 [some (xr 12 0), some (xi x1), none, none, none, none] [] h (PoV r)) ∧ (∀ (x1 x3 : Int) (h : Hp), Lay h → g_X12_sits n 10 [x1, x3] h = some r → X E mX12_sits (d + 6) (0, 0) (0, 0) 322 [some (xr 12 0), some (xi x1), none, some (xi x3), none, none] [] h (PoV r)) ∧ (∀ (x1 x3 : Int) (h : Hp), Lay h → g_X12_sits n 11 [x1, x3] h = some r → X E mX12_sits (d + 6) (0, 0) (0, 0) 376 [some (xr 12 0), some (xi x1), none, some (xi x3), none, none] [] h (PoV r)) := by
  intro n
  induction n with
  | zero => exact ⟨fun _ _ _ hF => no_e (r := r) hF, fun _ _ _ _ _ hF => no_e (r := r) hF, fun _ _ _ _ _ hF => no_e (r := r) hF, fun _ _ _ _ _ hF => no_e (r := r) hF, fun _ _ _ _ _ hF => no_e (r := r) hF, fun _ _ _ _ hF => no_e (r := r) hF, fun _ _ _ _ hF => no_e (r := r) hF, fun _ _ _ _ hF => no_e (r := r) hF, fun _ _ _ _ hF => no_e (r := r) hF, fun _ _ _ hF => no_e (r := r) hF, fun _ _ _ _ hF => no_e (r := r) hF, fun _ _ _ _ hF => no_e (r := r) hF⟩
  | succ n ih => exact ⟨fun x1 h hL hF => t_X12_sits_0 E d (g_X12_sits n) r ih.2.1 x1 h hL hF, fun x1 x2 x3 h hL hF => t_X12_sits_1 E d (g_X12_sits n) r ih.2.1 ih.2.2.1 x1 x2 x3 h hL hF, fun x1 x2 x3 h hL hF => t_X12_sits_2 E d (g_X12_sits n) r ih.2.2.2.1 ih.2.2.2.2.1 ih.2.2.2.2.2.1 x1 x2 x3 h hL hF, fun x1 x2 x3 h hL hF => t_X12_sits_3 E d (g_X12_sits n) r ih.2.2.2.2.1 x1 x2 x3 h hL hF, fun x1 x2 x3 h hL hF => t_X12_sits_4 E d (g_X12_sits n) r ih.2.2.1 x1 x2 x3 h hL hF, fun x1 x3 h hL hF => t_X12_sits_5 E d (g_X12_sits n) r ih.2.2.2.2.2.2.1 ih.2.2.2.2.2.2.2.1 x1 x3 h hL hF, fun x1 x3 h hL hF => t_X12_sits_6 E d (g_X12_sits n) r ih.2.2.2.2.2.1 x1 x3 h hL hF, fun x1 x3 h hL hF => t_X12_sits_7 E d (g_X12_sits n) r ih.2.2.2.2.2.2.2.2.1 ih.2.2.2.2.2.2.2.2.2.1 x1 x3 h hL hF, fun x1 x3 h hL hF => t_X12_sits_8 E d (g_X12_sits n) r ih.2.2.2.2.2.2.2.1 x1 x3 h hL hF, fun x1 h hL hF => t_X12_sits_9 E d (g_X12_sits n) r ih.2.2.2.2.2.2.2.2.2.2.1 x1 h hL hF, fun x1 x3 h hL hF => t_X12_sits_10 E d (g_X12_sits n) r ih.2.2.2.2.2.2.2.2.2.2.2 x1 x3 h hL hF, fun x1 x3 h hL hF => t_X12_sits_11 E d (g_X12_sits n) r ih.2.2.2.2.2.2.2.2.2.2.1 x1 x3 h hL hF⟩
theorem c_X12_sits (d : Nat) (x1 : Int) (h : Hp) (r : Int × Hp) (hL : Lay h) (hF : f_X12_sits x1 h = some r) : Sp mX12_sits (d + 6) (0, 0) [xr 12 0, xi x1] h (PoV r) :=
  sp_of (by decide) rfl (Nat.le_of_ble_eq_true rfl) (ls := [some (xr 12 0), some (xi x1), none, none, none, none]) rfl (fun E _ => (u_X12_sits E d r FU).1 x1 h hL hF)
theorem dX12_votes_0 : decode cX12_votes 0 = .ok (.aload_n 0, 1) := by decide +kernel
theorem dX12_votes_1 : decode cX12_votes 1 = .ok (.iconst 0, 1) := by decide +kernel
theorem dX12_votes_2 : decode cX12_votes 2 = .ok (.putfield 194, 3) := by decide +kernel
theorem dX12_votes_5 : decode cX12_votes 5 = .ok (.iload_n 1, 1) := by decide +kernel
theorem dX12_votes_6 : decode cX12_votes 6 = .ok (.ifCond .lt 19, 3) := by decide +kernel
theorem dX12_votes_9 : decode cX12_votes 9 = .ok (.iload_n 1, 1) := by decide +kernel
theorem dX12_votes_10 : decode cX12_votes 10 = .ok (.iconst 3, 1) := by decide +kernel
theorem dX12_votes_11 : decode cX12_votes 11 = .ok (.if_icmp .gt 14, 3) := by decide +kernel
theorem dX12_votes_14 : decode cX12_votes 14 = .ok (.aload_n 0, 1) := by decide +kernel
theorem dX12_votes_15 : decode cX12_votes 15 = .ok (.getfield 87, 3) := by decide +kernel
theorem dX12_votes_18 : decode cX12_votes 18 = .ok (.iconst 0, 1) := by decide +kernel
theorem dX12_votes_19 : decode cX12_votes 19 = .ok (.iaload, 1) := by decide +kernel
theorem dX12_votes_20 : decode cX12_votes 20 = .ok (.bipush 60, 2) := by decide +kernel
theorem dX12_votes_22 : decode cX12_votes 22 = .ok (.if_icmp .lt 5, 3) := by decide +kernel
theorem dX12_votes_25 : decode cX12_votes 25 = .ok (.iconst (-1), 1) := by decide +kernel
theorem dX12_votes_26 : decode cX12_votes 26 = .ok (.ireturn, 1) := by decide +kernel
theorem dX12_votes_27 : decode cX12_votes 27 = .ok (.aload_n 0, 1) := by decide +kernel
theorem dX12_votes_28 : decode cX12_votes 28 = .ok (.invokevirtual 455, 3) := by decide +kernel
theorem dX12_votes_31 : decode cX12_votes 31 = .ok (.aload_n 0, 1) := by decide +kernel
theorem dX12_votes_32 : decode cX12_votes 32 = .ok (.iconst 0, 1) := by decide +kernel
theorem dX12_votes_33 : decode cX12_votes 33 = .ok (.invokevirtual 443, 3) := by decide +kernel
theorem dX12_votes_36 : decode cX12_votes 36 = .ok (.aload_n 0, 1) := by decide +kernel
theorem dX12_votes_37 : decode cX12_votes 37 = .ok (.getfield 148, 3) := by decide +kernel
theorem dX12_votes_40 : decode cX12_votes 40 = .ok (.iload_n 1, 1) := by decide +kernel
theorem dX12_votes_41 : decode cX12_votes 41 = .ok (.iaload, 1) := by decide +kernel
theorem dX12_votes_42 : decode cX12_votes 42 = .ok (.ireturn, 1) := by decide +kernel
noncomputable def b_X12_votes_0 (rec : Rk) (x1 : Int) (h : Hp) : Option (Int × Hp) :=
  lt (sI h 12 0 0 0) fun h1 =>
  if x1 < 0 then (
    some ((-1), h1)
  ) else (
    if 3 < x1 then (
      some ((-1), h1)
    ) else (
      ck (0 ≤ (0 : Int) ∧ (0 : Int) < 23) <|
      if (gI h1 84 0 0) < 60 then (
        bd (f_X12_plain h1) fun v2 h3 =>
        bd (f_X12_sits 0 h3) fun v4 h5 =>
        ck (0 ≤ x1 ∧ x1 < 4) <|
        some (gI h5 102 0 x1, h5)
      ) else (
        some ((-1), h1)
      )
    )
  )
noncomputable def g_X12_votes (n : Nat) : Rk := Nat.rec (motive := fun _ => Rk) (fun _ _ _ => none) (fun _ rec k l h => if k = 0 then b_X12_votes_0 rec (l.getD 0 0) h else none) n
noncomputable def f_X12_votes (x1 : Int) (h : Hp) : Option (Int × Hp) := g_X12_votes FU 0 [x1] h
set_option maxHeartbeats 4000000 in
set_option maxRecDepth 100000 in
theorem t_X12_votes_0 (E : xE) (d : Nat) (rec : Rk) (r : Int × Hp) (x1 : Int) (h : Hp) (hL : Lay h) (hF : b_X12_votes_0 rec x1 h = some r) : X E mX12_votes (d + 7) (0, 0) (0, 0) 0 [some (xr 12 0), some (xi x1)] [] h (PoI r) := by
  unfold b_X12_votes_0 at hF
  refine x_aload_n (i := 0) (b := 1) dX12_votes_0 rfl rfl rfl ?_
  refine x_iconst (n := 0) (b := 2) dX12_votes_1 (by decide) rfl ?_
  refine x_putI (b := 5) fk_X12_194 dX12_votes_2 rfl rfl 0 rfl ?_
  obtain ⟨h1, e_h1, hF⟩ := lt_e hF
  refine x_hp (h2 := h1) e_h1 ?_
  replace hL : Lay h1 := by rw [← e_h1]; exact hL
  refine x_iload_n (i := 1) (b := 6) dX12_votes_5 rfl rfl rfl ?_
  refine x_if_lt (tgt := 25) (b := 9) dX12_votes_6 (by decide) rfl (fun hc => ?_) (fun hc => ?_)
  · replace hF := br_T hc hF
    refine x_iconst (n := (-1)) (b := 26) dX12_votes_25 (by decide) rfl ?_
    refine x_ireturn dX12_votes_26 rfl ⟨Nat.le_refl _, Nat.le_refl _⟩ ?_
    cases hF
    exact ⟨rfl, rfl, hL⟩
  · replace hF := br_F hc hF
    refine x_iload_n (i := 1) (b := 10) dX12_votes_9 rfl rfl rfl ?_
    refine x_iconst (n := 3) (b := 11) dX12_votes_10 (by decide) rfl ?_
    refine x_icmp_gt (tgt := 25) (b := 14) dX12_votes_11 (by decide) rfl (fun hc => ?_) (fun hc => ?_)
    · replace hF := br_T hc hF
      refine x_iconst (n := (-1)) (b := 26) dX12_votes_25 (by decide) rfl ?_
      refine x_ireturn dX12_votes_26 rfl ⟨Nat.le_refl _, Nat.le_refl _⟩ ?_
      cases hF
      exact ⟨rfl, rfl, hL⟩
    · replace hF := br_F hc hF
      refine x_aload_n (i := 0) (b := 15) dX12_votes_14 rfl rfl rfl ?_
      refine x_getL (j := 0) (t := (84, 0, true)) (b := 18) fk_X12_87 dX12_votes_15 rfl hL rfl rfl rfl ?_
      refine x_iconst (n := 0) (b := 19) dX12_votes_18 (by decide) rfl ?_
      obtain ⟨hs, hF⟩ := ck_e hF
      refine x_iald (v := gI h1 84 0 0) (b := 20) ak_84 dX12_votes_19 hs rfl rfl ?_
      refine x_bipush (n := 60) (b := 22) dX12_votes_20 (by decide) rfl ?_
      refine x_icmp_lt (tgt := 27) (b := 25) dX12_votes_22 (by decide) rfl (fun hc => ?_) (fun hc => ?_)
      · replace hF := br_T hc hF
        refine x_aload_n (i := 0) (b := 28) dX12_votes_27 rfl rfl rfl ?_
        obtain ⟨v2, h3, hq, hF⟩ := bd_e hF
        refine x_callV (as := []) (rest := []) (b := 31) (c_X12_plain (d + 5) h1 _ hL hq) dX12_votes_28 cw_X12_455 ⟨_, _, rfl, Nat.le_of_ble_eq_true rfl⟩ rfl rfl (Nat.le_of_ble_eq_true rfl) ⟨Nat.le_refl _, Nat.le_refl _⟩ rfl (fun rv hh hp _ => ?_)
        obtain ⟨rfl, rfl, hL⟩ := hp
        refine x_aload_n (i := 0) (b := 32) dX12_votes_31 rfl rfl rfl ?_
        refine x_iconst (n := 0) (b := 33) dX12_votes_32 (by decide) rfl ?_
        obtain ⟨v4, h5, hq, hF⟩ := bd_e hF
        refine x_callV (as := [xi 0]) (rest := []) (b := 36) (c_X12_sits d 0 h3 _ hL hq) dX12_votes_33 cw_X12_443 ⟨_, _, rfl, Nat.le_of_ble_eq_true rfl⟩ rfl rfl (Nat.le_of_ble_eq_true rfl) ⟨Nat.le_refl _, Nat.le_refl _⟩ rfl (fun rv hh hp _ => ?_)
        obtain ⟨rfl, rfl, hL⟩ := hp
        refine x_aload_n (i := 0) (b := 37) dX12_votes_36 rfl rfl rfl ?_
        refine x_getL (j := 0) (t := (102, 0, true)) (b := 40) fk_X12_148 dX12_votes_37 rfl hL rfl rfl rfl ?_
        refine x_iload_n (i := 1) (b := 41) dX12_votes_40 rfl rfl rfl ?_
        obtain ⟨hs, hF⟩ := ck_e hF
        refine x_iald (v := gI h5 102 0 x1) (b := 42) ak_102 dX12_votes_41 hs rfl rfl ?_
        refine x_ireturn dX12_votes_42 rfl ⟨Nat.le_refl _, Nat.le_refl _⟩ ?_
        cases hF
        exact ⟨rfl, rfl, hL⟩
      · replace hF := br_F hc hF
        refine x_iconst (n := (-1)) (b := 26) dX12_votes_25 (by decide) rfl ?_
        refine x_ireturn dX12_votes_26 rfl ⟨Nat.le_refl _, Nat.le_refl _⟩ ?_
        cases hF
        exact ⟨rfl, rfl, hL⟩
set_option maxHeartbeats 4000000 in
set_option maxRecDepth 100000 in
theorem u_X12_votes (E : xE) (d : Nat) (r : Int × Hp) : ∀ n : Nat, (∀ (x1 : Int) (h : Hp), Lay h → g_X12_votes n 0 [x1] h = some r → X E mX12_votes (d + 7) (0, 0) (0, 0) 0 [some (xr 12 0), some (xi x1)] [] h (PoI r)) := by
  intro n
  induction n with
  | zero => exact fun _ _ _ hF => no_e (r := r) hF
  | succ n ih => exact fun x1 h hL hF => t_X12_votes_0 E d (g_X12_votes n) r  x1 h hL hF
theorem c_X12_votes (d : Nat) (x1 : Int) (h : Hp) (r : Int × Hp) (hL : Lay h) (hF : f_X12_votes x1 h = some r) : Sp mX12_votes (d + 7) (0, 0) [xr 12 0, xi x1] h (PoI r) :=
  sp_of (by decide) rfl (Nat.le_of_ble_eq_true rfl) (ls := [some (xr 12 0), some (xi x1)]) rfl (fun E _ => (u_X12_votes E d r FU) x1 h hL hF)
theorem dX12_wish_0 : decode cX12_wish 0 = .ok (.aload_n 0, 1) := by decide +kernel
theorem dX12_wish_1 : decode cX12_wish 1 = .ok (.iconst 0, 1) := by decide +kernel
theorem dX12_wish_2 : decode cX12_wish 2 = .ok (.putfield 194, 3) := by decide +kernel
theorem dX12_wish_5 : decode cX12_wish 5 = .ok (.aload_n 0, 1) := by decide +kernel
theorem dX12_wish_6 : decode cX12_wish 6 = .ok (.iload_n 1, 1) := by decide +kernel
theorem dX12_wish_7 : decode cX12_wish 7 = .ok (.invokevirtual 452, 3) := by decide +kernel
theorem dX12_wish_10 : decode cX12_wish 10 = .ok (.istore_n 2, 1) := by decide +kernel
theorem dX12_wish_11 : decode cX12_wish 11 = .ok (.iload_n 2, 1) := by decide +kernel
theorem dX12_wish_12 : decode cX12_wish 12 = .ok (.iconst (-1), 1) := by decide +kernel
theorem dX12_wish_13 : decode cX12_wish 13 = .ok (.if_icmp .eq 14, 3) := by decide +kernel
theorem dX12_wish_16 : decode cX12_wish 16 = .ok (.aload_n 0, 1) := by decide +kernel
theorem dX12_wish_17 : decode cX12_wish 17 = .ok (.getfield 87, 3) := by decide +kernel
theorem dX12_wish_20 : decode cX12_wish 20 = .ok (.iconst 0, 1) := by decide +kernel
theorem dX12_wish_21 : decode cX12_wish 21 = .ok (.iaload, 1) := by decide +kernel
theorem dX12_wish_22 : decode cX12_wish 22 = .ok (.bipush 60, 2) := by decide +kernel
theorem dX12_wish_24 : decode cX12_wish 24 = .ok (.if_icmp .lt 5, 3) := by decide +kernel
theorem dX12_wish_27 : decode cX12_wish 27 = .ok (.iconst (-1), 1) := by decide +kernel
theorem dX12_wish_28 : decode cX12_wish 28 = .ok (.ireturn, 1) := by decide +kernel
theorem dX12_wish_29 : decode cX12_wish 29 = .ok (.aload_n 0, 1) := by decide +kernel
theorem dX12_wish_30 : decode cX12_wish 30 = .ok (.invokevirtual 455, 3) := by decide +kernel
theorem dX12_wish_33 : decode cX12_wish 33 = .ok (.aload_n 0, 1) := by decide +kernel
theorem dX12_wish_34 : decode cX12_wish 34 = .ok (.iconst 0, 1) := by decide +kernel
theorem dX12_wish_35 : decode cX12_wish 35 = .ok (.invokevirtual 443, 3) := by decide +kernel
theorem dX12_wish_38 : decode cX12_wish 38 = .ok (.aload_n 0, 1) := by decide +kernel
theorem dX12_wish_39 : decode cX12_wish 39 = .ok (.getfield 145, 3) := by decide +kernel
theorem dX12_wish_42 : decode cX12_wish 42 = .ok (.iload_n 2, 1) := by decide +kernel
theorem dX12_wish_43 : decode cX12_wish 43 = .ok (.iaload, 1) := by decide +kernel
theorem dX12_wish_44 : decode cX12_wish 44 = .ok (.iconst (-1), 1) := by decide +kernel
theorem dX12_wish_45 : decode cX12_wish 45 = .ok (.if_icmp .ne 8, 3) := by decide +kernel
theorem dX12_wish_48 : decode cX12_wish 48 = .ok (.bipush (-2), 2) := by decide +kernel
theorem dX12_wish_50 : decode cX12_wish 50 = .ok (.goto 9, 3) := by decide +kernel
theorem dX12_wish_53 : decode cX12_wish 53 = .ok (.aload_n 0, 1) := by decide +kernel
theorem dX12_wish_54 : decode cX12_wish 54 = .ok (.getfield 145, 3) := by decide +kernel
theorem dX12_wish_57 : decode cX12_wish 57 = .ok (.iload_n 2, 1) := by decide +kernel
theorem dX12_wish_58 : decode cX12_wish 58 = .ok (.iaload, 1) := by decide +kernel
theorem dX12_wish_59 : decode cX12_wish 59 = .ok (.ireturn, 1) := by decide +kernel
noncomputable def b_X12_wish_0 (rec : Rk) (x1 : Int) (h : Hp) : Option (Int × Hp) :=
  lt (sI h 12 0 0 0) fun h1 =>
  bd (f_X12_slot x1 h1) fun v2 h3 =>
  if v2 = (-1) then (
    some ((-1), h3)
  ) else (
    ck (0 ≤ (0 : Int) ∧ (0 : Int) < 23) <|
    if (gI h3 84 0 0) < 60 then (
      bd (f_X12_plain h3) fun v4 h5 =>
      bd (f_X12_sits 0 h5) fun v6 h7 =>
      ck (0 ≤ v2 ∧ v2 < 9) <|
      if (gI h7 101 0 v2) = (-1) then (
        some ((-2), h7)
      ) else (
        ck (0 ≤ v2 ∧ v2 < 9) <|
        some (gI h7 101 0 v2, h7)
      )
    ) else (
      some ((-1), h3)
    )
  )
noncomputable def g_X12_wish (n : Nat) : Rk := Nat.rec (motive := fun _ => Rk) (fun _ _ _ => none) (fun _ rec k l h => if k = 0 then b_X12_wish_0 rec (l.getD 0 0) h else none) n
noncomputable def f_X12_wish (x1 : Int) (h : Hp) : Option (Int × Hp) := g_X12_wish FU 0 [x1] h
set_option maxHeartbeats 4000000 in
set_option maxRecDepth 100000 in
theorem t_X12_wish_0 (E : xE) (d : Nat) (rec : Rk) (r : Int × Hp) (x1 : Int) (h : Hp) (hL : Lay h) (hF : b_X12_wish_0 rec x1 h = some r) : X E mX12_wish (d + 7) (0, 0) (0, 0) 0 [some (xr 12 0), some (xi x1), none] [] h (PoI r) := by
  unfold b_X12_wish_0 at hF
  refine x_aload_n (i := 0) (b := 1) dX12_wish_0 rfl rfl rfl ?_
  refine x_iconst (n := 0) (b := 2) dX12_wish_1 (by decide) rfl ?_
  refine x_putI (b := 5) fk_X12_194 dX12_wish_2 rfl rfl 0 rfl ?_
  obtain ⟨h1, e_h1, hF⟩ := lt_e hF
  refine x_hp (h2 := h1) e_h1 ?_
  replace hL : Lay h1 := by rw [← e_h1]; exact hL
  refine x_aload_n (i := 0) (b := 6) dX12_wish_5 rfl rfl rfl ?_
  refine x_iload_n (i := 1) (b := 7) dX12_wish_6 rfl rfl rfl ?_
  obtain ⟨v2, h3, hq, hF⟩ := bd_e hF
  refine x_callV (as := [xi x1]) (rest := []) (b := 10) (c_X12_slot (d + 5) x1 h1 _ hL hq) dX12_wish_7 cw_X12_452 ⟨_, _, rfl, Nat.le_of_ble_eq_true rfl⟩ rfl rfl (Nat.le_of_ble_eq_true rfl) ⟨Nat.le_refl _, Nat.le_refl _⟩ rfl (fun rv hh hp _ => ?_)
  obtain ⟨rfl, rfl, hL⟩ := hp
  refine x_istore_n (i := 2) (b := 11) (ls2 := [some (xr 12 0), some (xi x1), some (xi v2)]) dX12_wish_10 rfl (Nat.le_of_ble_eq_true rfl) rfl rfl ?_
  refine x_iload_n (i := 2) (b := 12) dX12_wish_11 rfl rfl rfl ?_
  refine x_iconst (n := (-1)) (b := 13) dX12_wish_12 (by decide) rfl ?_
  refine x_icmp_eq (tgt := 27) (b := 16) dX12_wish_13 (by decide) rfl (fun hc => ?_) (fun hc => ?_)
  · replace hF := br_T hc hF
    refine x_iconst (n := (-1)) (b := 28) dX12_wish_27 (by decide) rfl ?_
    refine x_ireturn dX12_wish_28 rfl ⟨Nat.le_refl _, Nat.le_refl _⟩ ?_
    cases hF
    exact ⟨rfl, rfl, hL⟩
  · replace hF := br_F hc hF
    refine x_aload_n (i := 0) (b := 17) dX12_wish_16 rfl rfl rfl ?_
    refine x_getL (j := 0) (t := (84, 0, true)) (b := 20) fk_X12_87 dX12_wish_17 rfl hL rfl rfl rfl ?_
    refine x_iconst (n := 0) (b := 21) dX12_wish_20 (by decide) rfl ?_
    obtain ⟨hs, hF⟩ := ck_e hF
    refine x_iald (v := gI h3 84 0 0) (b := 22) ak_84 dX12_wish_21 hs rfl rfl ?_
    refine x_bipush (n := 60) (b := 24) dX12_wish_22 (by decide) rfl ?_
    refine x_icmp_lt (tgt := 29) (b := 27) dX12_wish_24 (by decide) rfl (fun hc => ?_) (fun hc => ?_)
    · replace hF := br_T hc hF
      refine x_aload_n (i := 0) (b := 30) dX12_wish_29 rfl rfl rfl ?_
      obtain ⟨v4, h5, hq, hF⟩ := bd_e hF
      refine x_callV (as := []) (rest := []) (b := 33) (c_X12_plain (d + 5) h3 _ hL hq) dX12_wish_30 cw_X12_455 ⟨_, _, rfl, Nat.le_of_ble_eq_true rfl⟩ rfl rfl (Nat.le_of_ble_eq_true rfl) ⟨Nat.le_refl _, Nat.le_refl _⟩ rfl (fun rv hh hp _ => ?_)
      obtain ⟨rfl, rfl, hL⟩ := hp
      refine x_aload_n (i := 0) (b := 34) dX12_wish_33 rfl rfl rfl ?_
      refine x_iconst (n := 0) (b := 35) dX12_wish_34 (by decide) rfl ?_
      obtain ⟨v6, h7, hq, hF⟩ := bd_e hF
      refine x_callV (as := [xi 0]) (rest := []) (b := 38) (c_X12_sits d 0 h5 _ hL hq) dX12_wish_35 cw_X12_443 ⟨_, _, rfl, Nat.le_of_ble_eq_true rfl⟩ rfl rfl (Nat.le_of_ble_eq_true rfl) ⟨Nat.le_refl _, Nat.le_refl _⟩ rfl (fun rv hh hp _ => ?_)
      obtain ⟨rfl, rfl, hL⟩ := hp
      refine x_aload_n (i := 0) (b := 39) dX12_wish_38 rfl rfl rfl ?_
      refine x_getL (j := 0) (t := (101, 0, true)) (b := 42) fk_X12_145 dX12_wish_39 rfl hL rfl rfl rfl ?_
      refine x_iload_n (i := 2) (b := 43) dX12_wish_42 rfl rfl rfl ?_
      obtain ⟨hs, hF⟩ := ck_e hF
      refine x_iald (v := gI h7 101 0 v2) (b := 44) ak_101 dX12_wish_43 hs rfl rfl ?_
      refine x_iconst (n := (-1)) (b := 45) dX12_wish_44 (by decide) rfl ?_
      refine x_icmp_ne (tgt := 53) (b := 48) dX12_wish_45 (by decide) rfl (fun hc => ?_) (fun hc => ?_)
      · replace hF := br_F hc hF
        refine x_aload_n (i := 0) (b := 54) dX12_wish_53 rfl rfl rfl ?_
        refine x_getL (j := 0) (t := (101, 0, true)) (b := 57) fk_X12_145 dX12_wish_54 rfl hL rfl rfl rfl ?_
        refine x_iload_n (i := 2) (b := 58) dX12_wish_57 rfl rfl rfl ?_
        obtain ⟨hs, hF⟩ := ck_e hF
        refine x_iald (v := gI h7 101 0 v2) (b := 59) ak_101 dX12_wish_58 hs rfl rfl ?_
        refine x_ireturn dX12_wish_59 rfl ⟨Nat.le_refl _, Nat.le_refl _⟩ ?_
        cases hF
        exact ⟨rfl, rfl, hL⟩
      · replace hF := br_T hc hF
        refine x_bipush (n := (-2)) (b := 50) dX12_wish_48 (by decide) rfl ?_
        refine x_goto (tgt := 59) dX12_wish_50 (by decide) ?_
        refine x_ireturn dX12_wish_59 rfl ⟨Nat.le_refl _, Nat.le_refl _⟩ ?_
        cases hF
        exact ⟨rfl, rfl, hL⟩
    · replace hF := br_F hc hF
      refine x_iconst (n := (-1)) (b := 28) dX12_wish_27 (by decide) rfl ?_
      refine x_ireturn dX12_wish_28 rfl ⟨Nat.le_refl _, Nat.le_refl _⟩ ?_
      cases hF
      exact ⟨rfl, rfl, hL⟩
set_option maxHeartbeats 4000000 in
set_option maxRecDepth 100000 in
theorem u_X12_wish (E : xE) (d : Nat) (r : Int × Hp) : ∀ n : Nat, (∀ (x1 : Int) (h : Hp), Lay h → g_X12_wish n 0 [x1] h = some r → X E mX12_wish (d + 7) (0, 0) (0, 0) 0 [some (xr 12 0), some (xi x1), none] [] h (PoI r)) := by
  intro n
  induction n with
  | zero => exact fun _ _ _ hF => no_e (r := r) hF
  | succ n ih => exact fun x1 h hL hF => t_X12_wish_0 E d (g_X12_wish n) r  x1 h hL hF
theorem c_X12_wish (d : Nat) (x1 : Int) (h : Hp) (r : Int × Hp) (hL : Lay h) (hF : f_X12_wish x1 h = some r) : Sp mX12_wish (d + 7) (0, 0) [xr 12 0, xi x1] h (PoI r) :=
  sp_of (by decide) rfl (Nat.le_of_ble_eq_true rfl) (ls := [some (xr 12 0), some (xi x1), none]) rfl (fun E _ => (u_X12_wish E d r FU) x1 h hL hF)
theorem dX2_aboard_0 : decode cX2_aboard 0 = .ok (.iconst 0, 1) := by decide +kernel
theorem dX2_aboard_1 : decode cX2_aboard 1 = .ok (.istore_n 2, 1) := by decide +kernel
theorem dX2_aboard_2 : decode cX2_aboard 2 = .ok (.iconst 0, 1) := by decide +kernel
theorem dX2_aboard_3 : decode cX2_aboard 3 = .ok (.istore_n 3, 1) := by decide +kernel
theorem dX2_aboard_4 : decode cX2_aboard 4 = .ok (.iload_n 3, 1) := by decide +kernel
theorem dX2_aboard_5 : decode cX2_aboard 5 = .ok (.aload_n 0, 1) := by decide +kernel
theorem dX2_aboard_6 : decode cX2_aboard 6 = .ok (.getfield 43, 3) := by decide +kernel
theorem dX2_aboard_9 : decode cX2_aboard 9 = .ok (.invokevirtual 79, 3) := by decide +kernel
theorem dX2_aboard_12 : decode cX2_aboard 12 = .ok (.if_icmp .ge 26, 3) := by decide +kernel
theorem dX2_aboard_15 : decode cX2_aboard 15 = .ok (.iload_n 2, 1) := by decide +kernel
theorem dX2_aboard_16 : decode cX2_aboard 16 = .ok (.aload_n 0, 1) := by decide +kernel
theorem dX2_aboard_17 : decode cX2_aboard 17 = .ok (.aload_n 1, 1) := by decide +kernel
theorem dX2_aboard_18 : decode cX2_aboard 18 = .ok (.iload_n 3, 1) := by decide +kernel
theorem dX2_aboard_19 : decode cX2_aboard 19 = .ok (.invokevirtual 83, 3) := by decide +kernel
theorem dX2_aboard_22 : decode cX2_aboard 22 = .ok (.ifCond .eq 7, 3) := by decide +kernel
theorem dX2_aboard_25 : decode cX2_aboard 25 = .ok (.iconst 1, 1) := by decide +kernel
theorem dX2_aboard_26 : decode cX2_aboard 26 = .ok (.goto 4, 3) := by decide +kernel
theorem dX2_aboard_29 : decode cX2_aboard 29 = .ok (.iconst 0, 1) := by decide +kernel
theorem dX2_aboard_30 : decode cX2_aboard 30 = .ok (.iadd, 1) := by decide +kernel
theorem dX2_aboard_31 : decode cX2_aboard 31 = .ok (.istore_n 2, 1) := by decide +kernel
theorem dX2_aboard_32 : decode cX2_aboard 32 = .ok (.iinc 3 1, 3) := by decide +kernel
theorem dX2_aboard_35 : decode cX2_aboard 35 = .ok (.goto (-31), 3) := by decide +kernel
theorem dX2_aboard_38 : decode cX2_aboard 38 = .ok (.iload_n 2, 1) := by decide +kernel
theorem dX2_aboard_39 : decode cX2_aboard 39 = .ok (.ireturn, 1) := by decide +kernel
noncomputable def b_X2_aboard_0 (rec : Rk) (x1 : Int) (h : Hp) : Option (Int × Hp) :=
  rec 1 [x1, 0, 0] h
noncomputable def b_X2_aboard_1 (rec : Rk) (x1 x2 x3 : Int) (h : Hp) : Option (Int × Hp) :=
  rf (gR h 2 0 0) 0 fun j1 =>
  bd (f_X0_size j1 h) fun v2 h3 =>
  if v2 ≤ x3 then (
    some (x2, h3)
  ) else (
    bd (f_X2_isAboard x1 x3 h3) fun v4 h5 =>
    if v4 = 0 then (
      rec 2 [x1, x3, 0, x2] h5
    ) else (
      rec 2 [x1, x3, 1, x2] h5
    )
  )
noncomputable def b_X2_aboard_2 (rec : Rk) (x1 x3 y0 y1 : Int) (h : Hp) : Option (Int × Hp) :=
  ck (-2147483648 ≤ y1 + y0 ∧ y1 + y0 < 2147483648) <|
  lt (y1 + y0) fun z1 =>
  ck (-2147483648 ≤ x3 + 1 ∧ x3 + 1 < 2147483648) <|
  rec 1 [x1, z1, x3 + 1] h
noncomputable def g_X2_aboard (n : Nat) : Rk := Nat.rec (motive := fun _ => Rk) (fun _ _ _ => none) (fun _ rec k l h => if k = 0 then b_X2_aboard_0 rec (l.getD 0 0) h else if k = 1 then b_X2_aboard_1 rec (l.getD 0 0) (l.getD 1 0) (l.getD 2 0) h else if k = 2 then b_X2_aboard_2 rec (l.getD 0 0) (l.getD 1 0) (l.getD 2 0) (l.getD 3 0) h else none) n
noncomputable def f_X2_aboard (x1 : Int) (h : Hp) : Option (Int × Hp) := g_X2_aboard FU 0 [x1] h
set_option maxHeartbeats 4000000 in
set_option maxRecDepth 100000 in
theorem t_X2_aboard_0 (E : xE) (d : Nat) (rec : Rk) (r : Int × Hp) (hr_4 : ∀ (x1 x2 x3 : Int) (h : Hp), Lay h → rec 1 [x1, x2, x3] h = some r → X E mX2_aboard (d + 4) (0, 0) (0, 0) 4 [some (xr 2 0), some (xr 10 x1), some (xi x2), some (xi x3)] [] h (PoI r)) (x1 : Int) (h : Hp) (hL : Lay h) (hF : b_X2_aboard_0 rec x1 h = some r) : X E mX2_aboard (d + 4) (0, 0) (0, 0) 0 [some (xr 2 0), some (xr 10 x1), none, none] [] h (PoI r) := by
  unfold b_X2_aboard_0 at hF
  refine x_iconst (n := 0) (b := 1) dX2_aboard_0 (by decide) rfl ?_
  refine x_istore_n (i := 2) (b := 2) (ls2 := [some (xr 2 0), some (xr 10 x1), some (xi 0), none]) dX2_aboard_1 rfl (Nat.le_of_ble_eq_true rfl) rfl rfl ?_
  refine x_iconst (n := 0) (b := 3) dX2_aboard_2 (by decide) rfl ?_
  refine x_istore_n (i := 3) (b := 4) (ls2 := [some (xr 2 0), some (xr 10 x1), some (xi 0), some (xi 0)]) dX2_aboard_3 rfl (Nat.le_of_ble_eq_true rfl) rfl rfl ?_
  exact x_dp (ls2 := [some (xr 2 0), some (xr 10 x1), some (xi 0), some (xi 0)]) ⟨rfl, rfl, rfl, rfl, trivial⟩ (hr_4 x1 0 0 h hL hF)
set_option maxHeartbeats 4000000 in
set_option maxRecDepth 100000 in
theorem t_X2_aboard_1 (E : xE) (d : Nat) (rec : Rk) (r : Int × Hp) (hr_30 : ∀ (x1 x3 y0 y1 : Int) (h : Hp), Lay h → rec 2 [x1, x3, y0, y1] h = some r → X E mX2_aboard (d + 4) (0, 0) (0, 0) 30 [some (xr 2 0), some (xr 10 x1), none, some (xi x3)] [xi y0, xi y1] h (PoI r)) (x1 x2 x3 : Int) (h : Hp) (hL : Lay h) (hF : b_X2_aboard_1 rec x1 x2 x3 h = some r) : X E mX2_aboard (d + 4) (0, 0) (0, 0) 4 [some (xr 2 0), some (xr 10 x1), some (xi x2), some (xi x3)] [] h (PoI r) := by
  unfold b_X2_aboard_1 at hF
  refine x_iload_n (i := 3) (b := 5) dX2_aboard_4 rfl rfl rfl ?_
  refine x_aload_n (i := 0) (b := 6) dX2_aboard_5 rfl rfl rfl ?_
  obtain ⟨j1, e_j1, hF⟩ := rf_e hF
  refine x_getR (v := some (0, j1)) (b := 9) fk_X2_43 dX2_aboard_6 rfl e_j1 rfl ?_
  obtain ⟨v2, h3, hq, hF⟩ := bd_e hF
  refine x_callV (as := []) (rest := [xi x3]) (b := 12) (c_X0_size (d + 2) j1 h _ hL hq) dX2_aboard_9 cw_X2_79 ⟨_, _, rfl, Nat.le_of_ble_eq_true rfl⟩ rfl rfl (Nat.le_of_ble_eq_true rfl) ⟨Nat.le_refl _, Nat.le_refl _⟩ rfl (fun rv hh hp _ => ?_)
  obtain ⟨rfl, rfl, hL⟩ := hp
  refine x_icmp_ge (tgt := 38) (b := 15) dX2_aboard_12 (by decide) rfl (fun hc => ?_) (fun hc => ?_)
  · replace hF := br_T hc hF
    refine x_iload_n (i := 2) (b := 39) dX2_aboard_38 rfl rfl rfl ?_
    refine x_ireturn dX2_aboard_39 rfl ⟨Nat.le_refl _, Nat.le_refl _⟩ ?_
    cases hF
    exact ⟨rfl, rfl, hL⟩
  · replace hF := br_F hc hF
    refine x_iload_n (i := 2) (b := 16) dX2_aboard_15 rfl rfl rfl ?_
    refine x_aload_n (i := 0) (b := 17) dX2_aboard_16 rfl rfl rfl ?_
    refine x_aload_n (i := 1) (b := 18) dX2_aboard_17 rfl rfl rfl ?_
    refine x_iload_n (i := 3) (b := 19) dX2_aboard_18 rfl rfl rfl ?_
    obtain ⟨v4, h5, hq, hF⟩ := bd_e hF
    refine x_callV (as := [xr 10 x1, xi x3]) (rest := [xi x2]) (b := 22) (c_X2_isAboard d x1 x3 h3 _ hL hq) dX2_aboard_19 cw_X2_83 ⟨_, _, rfl, Nat.le_of_ble_eq_true rfl⟩ rfl rfl (Nat.le_of_ble_eq_true rfl) ⟨Nat.le_refl _, Nat.le_refl _⟩ rfl (fun rv hh hp _ => ?_)
    obtain ⟨rfl, rfl, hL⟩ := hp
    refine x_if_eq (tgt := 29) (b := 25) dX2_aboard_22 (by decide) rfl (fun hc => ?_) (fun hc => ?_)
    · replace hF := br_T hc hF
      refine x_iconst (n := 0) (b := 30) dX2_aboard_29 (by decide) rfl ?_
      exact x_dp (ls2 := [some (xr 2 0), some (xr 10 x1), none, some (xi x3)]) ⟨rfl, rfl, rfl, trivial⟩ (hr_30 x1 x3 0 x2 h5 hL hF)
    · replace hF := br_F hc hF
      refine x_iconst (n := 1) (b := 26) dX2_aboard_25 (by decide) rfl ?_
      refine x_goto (tgt := 30) dX2_aboard_26 (by decide) ?_
      exact x_dp (ls2 := [some (xr 2 0), some (xr 10 x1), none, some (xi x3)]) ⟨rfl, rfl, rfl, trivial⟩ (hr_30 x1 x3 1 x2 h5 hL hF)
set_option maxHeartbeats 4000000 in
set_option maxRecDepth 100000 in
theorem t_X2_aboard_2 (E : xE) (d : Nat) (rec : Rk) (r : Int × Hp) (hr_4 : ∀ (x1 x2 x3 : Int) (h : Hp), Lay h → rec 1 [x1, x2, x3] h = some r → X E mX2_aboard (d + 4) (0, 0) (0, 0) 4 [some (xr 2 0), some (xr 10 x1), some (xi x2), some (xi x3)] [] h (PoI r)) (x1 x3 y0 y1 : Int) (h : Hp) (hL : Lay h) (hF : b_X2_aboard_2 rec x1 x3 y0 y1 h = some r) : X E mX2_aboard (d + 4) (0, 0) (0, 0) 30 [some (xr 2 0), some (xr 10 x1), none, some (xi x3)] [xi y0, xi y1] h (PoI r) := by
  unfold b_X2_aboard_2 at hF
  obtain ⟨hs, hF⟩ := ck_e hF
  refine x_iadd (b := 31) dX2_aboard_30 hs rfl ?_
  obtain ⟨z1, e_z1, hF⟩ := lt_e hF
  refine x_eq (y := z1) e_z1 ?_
  refine x_istore_n (i := 2) (b := 32) (ls2 := [some (xr 2 0), some (xr 10 x1), some (xi z1), some (xi x3)]) dX2_aboard_31 rfl (Nat.le_of_ble_eq_true rfl) rfl rfl ?_
  obtain ⟨hs, hF⟩ := ck_e hF
  refine x_iinc (i := 3) (b := 35) (ls2 := [some (xr 2 0), some (xr 10 x1), some (xi z1), some (xi (x3 + 1))]) dX2_aboard_32 rfl (Nat.le_of_ble_eq_true rfl) hs rfl rfl ?_
  refine x_goto (tgt := 4) dX2_aboard_35 (by decide) ?_
  exact x_dp (ls2 := [some (xr 2 0), some (xr 10 x1), some (xi z1), some (xi (x3 + 1))]) ⟨rfl, rfl, rfl, rfl, trivial⟩ (hr_4 x1 z1 (x3 + 1) h hL hF)
set_option maxHeartbeats 4000000 in
set_option maxRecDepth 100000 in
theorem u_X2_aboard (E : xE) (d : Nat) (r : Int × Hp) : ∀ n : Nat, (∀ (x1 : Int) (h : Hp), Lay h → g_X2_aboard n 0 [x1] h = some r → X E mX2_aboard (d + 4) (0, 0) (0, 0) 0 [some (xr 2 0), some (xr 10 x1), none, none] [] h (PoI r)) ∧ (∀ (x1 x2 x3 : Int) (h : Hp), Lay h → g_X2_aboard n 1 [x1, x2, x3] h = some r → X E mX2_aboard (d + 4) (0, 0) (0, 0) 4 [some (xr 2 0), some (xr 10 x1), some (xi x2), some (xi x3)] [] h (PoI r)) ∧ (∀ (x1 x3 y0 y1 : Int) (h : Hp), Lay h → g_X2_aboard n 2 [x1, x3, y0, y1] h = some r → X E mX2_aboard (d + 4) (0, 0) (0, 0) 30 [some (xr 2 0), some (xr 10 x1), none, some (xi x3)] [xi y0, xi y1] h (PoI r)) := by
  intro n
  induction n with
  | zero => exact ⟨fun _ _ _ hF => no_e (r := r) hF, fun _ _ _ _ _ hF => no_e (r := r) hF, fun _ _ _ _ _ _ hF => no_e (r := r) hF⟩
  | succ n ih => exact ⟨fun x1 h hL hF => t_X2_aboard_0 E d (g_X2_aboard n) r ih.2.1 x1 h hL hF, fun x1 x2 x3 h hL hF => t_X2_aboard_1 E d (g_X2_aboard n) r ih.2.2 x1 x2 x3 h hL hF, fun x1 x3 y0 y1 h hL hF => t_X2_aboard_2 E d (g_X2_aboard n) r ih.2.1 x1 x3 y0 y1 h hL hF⟩
theorem c_X2_aboard (d : Nat) (x1 : Int) (h : Hp) (r : Int × Hp) (hL : Lay h) (hF : f_X2_aboard x1 h = some r) : Sp mX2_aboard (d + 4) (0, 0) [xr 2 0, xr 10 x1] h (PoI r) :=
  sp_of (by decide) rfl (Nat.le_of_ble_eq_true rfl) (ls := [some (xr 2 0), some (xr 10 x1), none, none]) rfl (fun E _ => (u_X2_aboard E d r FU).1 x1 h hL hF)
theorem dX2_hungry_0 : decode cX2_hungry 0 = .ok (.iconst 0, 1) := by decide +kernel
theorem dX2_hungry_1 : decode cX2_hungry 1 = .ok (.istore_n 2, 1) := by decide +kernel
theorem dX2_hungry_2 : decode cX2_hungry 2 = .ok (.iconst 0, 1) := by decide +kernel
theorem dX2_hungry_3 : decode cX2_hungry 3 = .ok (.istore_n 3, 1) := by decide +kernel
theorem dX2_hungry_4 : decode cX2_hungry 4 = .ok (.iload_n 3, 1) := by decide +kernel
theorem dX2_hungry_5 : decode cX2_hungry 5 = .ok (.aload_n 0, 1) := by decide +kernel
theorem dX2_hungry_6 : decode cX2_hungry 6 = .ok (.getfield 43, 3) := by decide +kernel
theorem dX2_hungry_9 : decode cX2_hungry 9 = .ok (.getfield 58, 3) := by decide +kernel
theorem dX2_hungry_12 : decode cX2_hungry 12 = .ok (.if_icmp .ge 42, 3) := by decide +kernel
theorem dX2_hungry_15 : decode cX2_hungry 15 = .ok (.iload_n 3, 1) := by decide +kernel
theorem dX2_hungry_16 : decode cX2_hungry 16 = .ok (.iconst 5, 1) := by decide +kernel
theorem dX2_hungry_17 : decode cX2_hungry 17 = .ok (.if_icmp .ge 37, 3) := by decide +kernel
theorem dX2_hungry_20 : decode cX2_hungry 20 = .ok (.iload_n 2, 1) := by decide +kernel
theorem dX2_hungry_21 : decode cX2_hungry 21 = .ok (.aload_n 0, 1) := by decide +kernel
theorem dX2_hungry_22 : decode cX2_hungry 22 = .ok (.aload_n 1, 1) := by decide +kernel
theorem dX2_hungry_23 : decode cX2_hungry 23 = .ok (.iload_n 3, 1) := by decide +kernel
theorem dX2_hungry_24 : decode cX2_hungry 24 = .ok (.invokevirtual 83, 3) := by decide +kernel
theorem dX2_hungry_27 : decode cX2_hungry 27 = .ok (.ifCond .eq 18, 3) := by decide +kernel
theorem dX2_hungry_30 : decode cX2_hungry 30 = .ok (.aload_n 0, 1) := by decide +kernel
theorem dX2_hungry_31 : decode cX2_hungry 31 = .ok (.aload_n 1, 1) := by decide +kernel
theorem dX2_hungry_32 : decode cX2_hungry 32 = .ok (.iload_n 3, 1) := by decide +kernel
theorem dX2_hungry_33 : decode cX2_hungry 33 = .ok (.invokevirtual 95, 3) := by decide +kernel
theorem dX2_hungry_36 : decode cX2_hungry 36 = .ok (.ifCond .le 9, 3) := by decide +kernel
theorem dX2_hungry_39 : decode cX2_hungry 39 = .ok (.iconst 1, 1) := by decide +kernel
theorem dX2_hungry_40 : decode cX2_hungry 40 = .ok (.iload_n 3, 1) := by decide +kernel
theorem dX2_hungry_41 : decode cX2_hungry 41 = .ok (.ishl, 1) := by decide +kernel
theorem dX2_hungry_42 : decode cX2_hungry 42 = .ok (.goto 4, 3) := by decide +kernel
theorem dX2_hungry_45 : decode cX2_hungry 45 = .ok (.iconst 0, 1) := by decide +kernel
theorem dX2_hungry_46 : decode cX2_hungry 46 = .ok (.ior, 1) := by decide +kernel
theorem dX2_hungry_47 : decode cX2_hungry 47 = .ok (.istore_n 2, 1) := by decide +kernel
theorem dX2_hungry_48 : decode cX2_hungry 48 = .ok (.iinc 3 1, 3) := by decide +kernel
theorem dX2_hungry_51 : decode cX2_hungry 51 = .ok (.goto (-47), 3) := by decide +kernel
theorem dX2_hungry_54 : decode cX2_hungry 54 = .ok (.iload_n 2, 1) := by decide +kernel
theorem dX2_hungry_55 : decode cX2_hungry 55 = .ok (.ireturn, 1) := by decide +kernel
noncomputable def b_X2_hungry_0 (rec : Rk) (x1 : Int) (h : Hp) : Option (Int × Hp) :=
  rec 1 [x1, 0, 0] h
noncomputable def b_X2_hungry_1 (rec : Rk) (x1 x2 x3 : Int) (h : Hp) : Option (Int × Hp) :=
  rf (gR h 2 0 0) 0 fun j1 =>
  if (gI h 0 j1 3) ≤ x3 then (
    some (x2, h)
  ) else (
    if 5 ≤ x3 then (
      some (x2, h)
    ) else (
      bd (f_X2_isAboard x1 x3 h) fun v2 h3 =>
      if v2 = 0 then (
        rec 2 [x1, x3, x2] h3
      ) else (
        bd (f_X2_portion x1 x3 h3) fun v4 h5 =>
        if v4 ≤ 0 then (
          rec 2 [x1, x3, x2] h5
        ) else (
          rec 3 [x1, x3, bshl 1 x3, x2] h5
        )
      )
    )
  )
noncomputable def b_X2_hungry_2 (rec : Rk) (x1 x3 y0 : Int) (h : Hp) : Option (Int × Hp) :=
  rec 3 [x1, x3, 0, y0] h
noncomputable def b_X2_hungry_3 (rec : Rk) (x1 x3 y0 y1 : Int) (h : Hp) : Option (Int × Hp) :=
  lt (bor y1 y0) fun z1 =>
  ck (-2147483648 ≤ x3 + 1 ∧ x3 + 1 < 2147483648) <|
  rec 1 [x1, z1, x3 + 1] h
noncomputable def g_X2_hungry (n : Nat) : Rk := Nat.rec (motive := fun _ => Rk) (fun _ _ _ => none) (fun _ rec k l h => if k = 0 then b_X2_hungry_0 rec (l.getD 0 0) h else if k = 1 then b_X2_hungry_1 rec (l.getD 0 0) (l.getD 1 0) (l.getD 2 0) h else if k = 2 then b_X2_hungry_2 rec (l.getD 0 0) (l.getD 1 0) (l.getD 2 0) h else if k = 3 then b_X2_hungry_3 rec (l.getD 0 0) (l.getD 1 0) (l.getD 2 0) (l.getD 3 0) h else none) n
noncomputable def f_X2_hungry (x1 : Int) (h : Hp) : Option (Int × Hp) := g_X2_hungry FU 0 [x1] h
set_option maxHeartbeats 4000000 in
set_option maxRecDepth 100000 in
theorem t_X2_hungry_0 (E : xE) (d : Nat) (rec : Rk) (r : Int × Hp) (hr_4 : ∀ (x1 x2 x3 : Int) (h : Hp), Lay h → rec 1 [x1, x2, x3] h = some r → X E mX2_hungry (d + 4) (0, 0) (0, 0) 4 [some (xr 2 0), some (xr 10 x1), some (xi x2), some (xi x3)] [] h (PoI r)) (x1 : Int) (h : Hp) (hL : Lay h) (hF : b_X2_hungry_0 rec x1 h = some r) : X E mX2_hungry (d + 4) (0, 0) (0, 0) 0 [some (xr 2 0), some (xr 10 x1), none, none] [] h (PoI r) := by
  unfold b_X2_hungry_0 at hF
  refine x_iconst (n := 0) (b := 1) dX2_hungry_0 (by decide) rfl ?_
  refine x_istore_n (i := 2) (b := 2) (ls2 := [some (xr 2 0), some (xr 10 x1), some (xi 0), none]) dX2_hungry_1 rfl (Nat.le_of_ble_eq_true rfl) rfl rfl ?_
  refine x_iconst (n := 0) (b := 3) dX2_hungry_2 (by decide) rfl ?_
  refine x_istore_n (i := 3) (b := 4) (ls2 := [some (xr 2 0), some (xr 10 x1), some (xi 0), some (xi 0)]) dX2_hungry_3 rfl (Nat.le_of_ble_eq_true rfl) rfl rfl ?_
  exact x_dp (ls2 := [some (xr 2 0), some (xr 10 x1), some (xi 0), some (xi 0)]) ⟨rfl, rfl, rfl, rfl, trivial⟩ (hr_4 x1 0 0 h hL hF)
set_option maxHeartbeats 4000000 in
set_option maxRecDepth 100000 in
theorem t_X2_hungry_1 (E : xE) (d : Nat) (rec : Rk) (r : Int × Hp) (hr_45 : ∀ (x1 x3 y0 : Int) (h : Hp), Lay h → rec 2 [x1, x3, y0] h = some r → X E mX2_hungry (d + 4) (0, 0) (0, 0) 45 [some (xr 2 0), some (xr 10 x1), none, some (xi x3)] [xi y0] h (PoI r)) (hr_46 : ∀ (x1 x3 y0 y1 : Int) (h : Hp), Lay h → rec 3 [x1, x3, y0, y1] h = some r → X E mX2_hungry (d + 4) (0, 0) (0, 0) 46 [some (xr 2 0), some (xr 10 x1), none, some (xi x3)] [xi y0, xi y1] h (PoI r)) (x1 x2 x3 : Int) (h : Hp) (hL : Lay h) (hF : b_X2_hungry_1 rec x1 x2 x3 h = some r) : X E mX2_hungry (d + 4) (0, 0) (0, 0) 4 [some (xr 2 0), some (xr 10 x1), some (xi x2), some (xi x3)] [] h (PoI r) := by
  unfold b_X2_hungry_1 at hF
  refine x_iload_n (i := 3) (b := 5) dX2_hungry_4 rfl rfl rfl ?_
  refine x_aload_n (i := 0) (b := 6) dX2_hungry_5 rfl rfl rfl ?_
  obtain ⟨j1, e_j1, hF⟩ := rf_e hF
  refine x_getR (v := some (0, j1)) (b := 9) fk_X2_43 dX2_hungry_6 rfl e_j1 rfl ?_
  refine x_getI (v := gI h 0 j1 3) (b := 12) fk_X2_58 dX2_hungry_9 (by decide) rfl rfl ?_
  refine x_icmp_ge (tgt := 54) (b := 15) dX2_hungry_12 (by decide) rfl (fun hc => ?_) (fun hc => ?_)
  · replace hF := br_T hc hF
    refine x_iload_n (i := 2) (b := 55) dX2_hungry_54 rfl rfl rfl ?_
    refine x_ireturn dX2_hungry_55 rfl ⟨Nat.le_refl _, Nat.le_refl _⟩ ?_
    cases hF
    exact ⟨rfl, rfl, hL⟩
  · replace hF := br_F hc hF
    refine x_iload_n (i := 3) (b := 16) dX2_hungry_15 rfl rfl rfl ?_
    refine x_iconst (n := 5) (b := 17) dX2_hungry_16 (by decide) rfl ?_
    refine x_icmp_ge (tgt := 54) (b := 20) dX2_hungry_17 (by decide) rfl (fun hc => ?_) (fun hc => ?_)
    · replace hF := br_T hc hF
      refine x_iload_n (i := 2) (b := 55) dX2_hungry_54 rfl rfl rfl ?_
      refine x_ireturn dX2_hungry_55 rfl ⟨Nat.le_refl _, Nat.le_refl _⟩ ?_
      cases hF
      exact ⟨rfl, rfl, hL⟩
    · replace hF := br_F hc hF
      refine x_iload_n (i := 2) (b := 21) dX2_hungry_20 rfl rfl rfl ?_
      refine x_aload_n (i := 0) (b := 22) dX2_hungry_21 rfl rfl rfl ?_
      refine x_aload_n (i := 1) (b := 23) dX2_hungry_22 rfl rfl rfl ?_
      refine x_iload_n (i := 3) (b := 24) dX2_hungry_23 rfl rfl rfl ?_
      obtain ⟨v2, h3, hq, hF⟩ := bd_e hF
      refine x_callV (as := [xr 10 x1, xi x3]) (rest := [xi x2]) (b := 27) (c_X2_isAboard d x1 x3 h _ hL hq) dX2_hungry_24 cw_X2_83 ⟨_, _, rfl, Nat.le_of_ble_eq_true rfl⟩ rfl rfl (Nat.le_of_ble_eq_true rfl) ⟨Nat.le_refl _, Nat.le_refl _⟩ rfl (fun rv hh hp _ => ?_)
      obtain ⟨rfl, rfl, hL⟩ := hp
      refine x_if_eq (tgt := 45) (b := 30) dX2_hungry_27 (by decide) rfl (fun hc => ?_) (fun hc => ?_)
      · replace hF := br_T hc hF
        exact x_dp (ls2 := [some (xr 2 0), some (xr 10 x1), none, some (xi x3)]) ⟨rfl, rfl, rfl, trivial⟩ (hr_45 x1 x3 x2 h3 hL hF)
      · replace hF := br_F hc hF
        refine x_aload_n (i := 0) (b := 31) dX2_hungry_30 rfl rfl rfl ?_
        refine x_aload_n (i := 1) (b := 32) dX2_hungry_31 rfl rfl rfl ?_
        refine x_iload_n (i := 3) (b := 33) dX2_hungry_32 rfl rfl rfl ?_
        obtain ⟨v4, h5, hq, hF⟩ := bd_e hF
        refine x_callV (as := [xr 10 x1, xi x3]) (rest := [xi x2]) (b := 36) (c_X2_portion d x1 x3 h3 _ hL hq) dX2_hungry_33 cw_X2_95 ⟨_, _, rfl, Nat.le_of_ble_eq_true rfl⟩ rfl rfl (Nat.le_of_ble_eq_true rfl) ⟨Nat.le_refl _, Nat.le_refl _⟩ rfl (fun rv hh hp _ => ?_)
        obtain ⟨rfl, rfl, hL⟩ := hp
        refine x_if_le (tgt := 45) (b := 39) dX2_hungry_36 (by decide) rfl (fun hc => ?_) (fun hc => ?_)
        · replace hF := br_T hc hF
          exact x_dp (ls2 := [some (xr 2 0), some (xr 10 x1), none, some (xi x3)]) ⟨rfl, rfl, rfl, trivial⟩ (hr_45 x1 x3 x2 h5 hL hF)
        · replace hF := br_F hc hF
          refine x_iconst (n := 1) (b := 40) dX2_hungry_39 (by decide) rfl ?_
          refine x_iload_n (i := 3) (b := 41) dX2_hungry_40 rfl rfl rfl ?_
          refine x_ishl (b := 42) dX2_hungry_41 rfl ?_
          refine x_goto (tgt := 46) dX2_hungry_42 (by decide) ?_
          exact x_dp (ls2 := [some (xr 2 0), some (xr 10 x1), none, some (xi x3)]) ⟨rfl, rfl, rfl, trivial⟩ (hr_46 x1 x3 (bshl 1 x3) x2 h5 hL hF)
set_option maxHeartbeats 4000000 in
set_option maxRecDepth 100000 in
theorem t_X2_hungry_2 (E : xE) (d : Nat) (rec : Rk) (r : Int × Hp) (hr_46 : ∀ (x1 x3 y0 y1 : Int) (h : Hp), Lay h → rec 3 [x1, x3, y0, y1] h = some r → X E mX2_hungry (d + 4) (0, 0) (0, 0) 46 [some (xr 2 0), some (xr 10 x1), none, some (xi x3)] [xi y0, xi y1] h (PoI r)) (x1 x3 y0 : Int) (h : Hp) (hL : Lay h) (hF : b_X2_hungry_2 rec x1 x3 y0 h = some r) : X E mX2_hungry (d + 4) (0, 0) (0, 0) 45 [some (xr 2 0), some (xr 10 x1), none, some (xi x3)] [xi y0] h (PoI r) := by
  unfold b_X2_hungry_2 at hF
  refine x_iconst (n := 0) (b := 46) dX2_hungry_45 (by decide) rfl ?_
  exact x_dp (ls2 := [some (xr 2 0), some (xr 10 x1), none, some (xi x3)]) ⟨rfl, rfl, rfl, trivial⟩ (hr_46 x1 x3 0 y0 h hL hF)
set_option maxHeartbeats 4000000 in
set_option maxRecDepth 100000 in
theorem t_X2_hungry_3 (E : xE) (d : Nat) (rec : Rk) (r : Int × Hp) (hr_4 : ∀ (x1 x2 x3 : Int) (h : Hp), Lay h → rec 1 [x1, x2, x3] h = some r → X E mX2_hungry (d + 4) (0, 0) (0, 0) 4 [some (xr 2 0), some (xr 10 x1), some (xi x2), some (xi x3)] [] h (PoI r)) (x1 x3 y0 y1 : Int) (h : Hp) (hL : Lay h) (hF : b_X2_hungry_3 rec x1 x3 y0 y1 h = some r) : X E mX2_hungry (d + 4) (0, 0) (0, 0) 46 [some (xr 2 0), some (xr 10 x1), none, some (xi x3)] [xi y0, xi y1] h (PoI r) := by
  unfold b_X2_hungry_3 at hF
  refine x_ior (b := 47) dX2_hungry_46 rfl ?_
  obtain ⟨z1, e_z1, hF⟩ := lt_e hF
  refine x_eq (y := z1) e_z1 ?_
  refine x_istore_n (i := 2) (b := 48) (ls2 := [some (xr 2 0), some (xr 10 x1), some (xi z1), some (xi x3)]) dX2_hungry_47 rfl (Nat.le_of_ble_eq_true rfl) rfl rfl ?_
  obtain ⟨hs, hF⟩ := ck_e hF
  refine x_iinc (i := 3) (b := 51) (ls2 := [some (xr 2 0), some (xr 10 x1), some (xi z1), some (xi (x3 + 1))]) dX2_hungry_48 rfl (Nat.le_of_ble_eq_true rfl) hs rfl rfl ?_
  refine x_goto (tgt := 4) dX2_hungry_51 (by decide) ?_
  exact x_dp (ls2 := [some (xr 2 0), some (xr 10 x1), some (xi z1), some (xi (x3 + 1))]) ⟨rfl, rfl, rfl, rfl, trivial⟩ (hr_4 x1 z1 (x3 + 1) h hL hF)
set_option maxHeartbeats 4000000 in
set_option maxRecDepth 100000 in
theorem u_X2_hungry (E : xE) (d : Nat) (r : Int × Hp) : ∀ n : Nat, (∀ (x1 : Int) (h : Hp), Lay h → g_X2_hungry n 0 [x1] h = some r → X E mX2_hungry (d + 4) (0, 0) (0, 0) 0 [some (xr 2 0), some (xr 10 x1), none, none] [] h (PoI r)) ∧ (∀ (x1 x2 x3 : Int) (h : Hp), Lay h → g_X2_hungry n 1 [x1, x2, x3] h = some r → X E mX2_hungry (d + 4) (0, 0) (0, 0) 4 [some (xr 2 0), some (xr 10 x1), some (xi x2), some (xi x3)] [] h (PoI r)) ∧ (∀ (x1 x3 y0 : Int) (h : Hp), Lay h → g_X2_hungry n 2 [x1, x3, y0] h = some r → X E mX2_hungry (d + 4) (0, 0) (0, 0) 45 [some (xr 2 0), some (xr 10 x1), none, some (xi x3)] [xi y0] h (PoI r)) ∧ (∀ (x1 x3 y0 y1 : Int) (h : Hp), Lay h → g_X2_hungry n 3 [x1, x3, y0, y1] h = some r → X E mX2_hungry (d + 4) (0, 0) (0, 0) 46 [some (xr 2 0), some (xr 10 x1), none, some (xi x3)] [xi y0, xi y1] h (PoI r)) := by
  intro n
  induction n with
  | zero => exact ⟨fun _ _ _ hF => no_e (r := r) hF, fun _ _ _ _ _ hF => no_e (r := r) hF, fun _ _ _ _ _ hF => no_e (r := r) hF, fun _ _ _ _ _ _ hF => no_e (r := r) hF⟩
  | succ n ih => exact ⟨fun x1 h hL hF => t_X2_hungry_0 E d (g_X2_hungry n) r ih.2.1 x1 h hL hF, fun x1 x2 x3 h hL hF => t_X2_hungry_1 E d (g_X2_hungry n) r ih.2.2.1 ih.2.2.2 x1 x2 x3 h hL hF, fun x1 x3 y0 h hL hF => t_X2_hungry_2 E d (g_X2_hungry n) r ih.2.2.2 x1 x3 y0 h hL hF, fun x1 x3 y0 y1 h hL hF => t_X2_hungry_3 E d (g_X2_hungry n) r ih.2.1 x1 x3 y0 y1 h hL hF⟩
theorem c_X2_hungry (d : Nat) (x1 : Int) (h : Hp) (r : Int × Hp) (hL : Lay h) (hF : f_X2_hungry x1 h = some r) : Sp mX2_hungry (d + 4) (0, 0) [xr 2 0, xr 10 x1] h (PoI r) :=
  sp_of (by decide) rfl (Nat.le_of_ble_eq_true rfl) (ls := [some (xr 2 0), some (xr 10 x1), none, none]) rfl (fun E _ => (u_X2_hungry E d r FU).1 x1 h hL hF)
theorem dX2_ordersDecidedBy_0 : decode cX2_ordersDecidedBy 0 = .ok (.iconst 0, 1) := by decide +kernel
theorem dX2_ordersDecidedBy_1 : decode cX2_ordersDecidedBy 1 = .ok (.istore_n 3, 1) := by decide +kernel
theorem dX2_ordersDecidedBy_2 : decode cX2_ordersDecidedBy 2 = .ok (.iconst 0, 1) := by decide +kernel
theorem dX2_ordersDecidedBy_3 : decode cX2_ordersDecidedBy 3 = .ok (.istore 4, 2) := by decide +kernel
theorem dX2_ordersDecidedBy_5 : decode cX2_ordersDecidedBy 5 = .ok (.aload_n 0, 1) := by decide +kernel
theorem dX2_ordersDecidedBy_6 : decode cX2_ordersDecidedBy 6 = .ok (.aload_n 1, 1) := by decide +kernel
theorem dX2_ordersDecidedBy_7 : decode cX2_ordersDecidedBy 7 = .ok (.iload_n 2, 1) := by decide +kernel
theorem dX2_ordersDecidedBy_8 : decode cX2_ordersDecidedBy 8 = .ok (.invokevirtual 95, 3) := by decide +kernel
theorem dX2_ordersDecidedBy_11 : decode cX2_ordersDecidedBy 11 = .ok (.istore 5, 2) := by decide +kernel
theorem dX2_ordersDecidedBy_13 : decode cX2_ordersDecidedBy 13 = .ok (.iconst 0, 1) := by decide +kernel
theorem dX2_ordersDecidedBy_14 : decode cX2_ordersDecidedBy 14 = .ok (.istore 6, 2) := by decide +kernel
theorem dX2_ordersDecidedBy_16 : decode cX2_ordersDecidedBy 16 = .ok (.iload 6, 2) := by decide +kernel
theorem dX2_ordersDecidedBy_18 : decode cX2_ordersDecidedBy 18 = .ok (.aload_n 0, 1) := by decide +kernel
theorem dX2_ordersDecidedBy_19 : decode cX2_ordersDecidedBy 19 = .ok (.getfield 43, 3) := by decide +kernel
theorem dX2_ordersDecidedBy_22 : decode cX2_ordersDecidedBy 22 = .ok (.invokevirtual 79, 3) := by decide +kernel
theorem dX2_ordersDecidedBy_25 : decode cX2_ordersDecidedBy 25 = .ok (.if_icmp .ge 59, 3) := by decide +kernel
theorem dX2_ordersDecidedBy_28 : decode cX2_ordersDecidedBy 28 = .ok (.aload_n 0, 1) := by decide +kernel
theorem dX2_ordersDecidedBy_29 : decode cX2_ordersDecidedBy 29 = .ok (.aload_n 1, 1) := by decide +kernel
theorem dX2_ordersDecidedBy_30 : decode cX2_ordersDecidedBy 30 = .ok (.iload 6, 2) := by decide +kernel
theorem dX2_ordersDecidedBy_32 : decode cX2_ordersDecidedBy 32 = .ok (.invokevirtual 83, 3) := by decide +kernel
theorem dX2_ordersDecidedBy_35 : decode cX2_ordersDecidedBy 35 = .ok (.ifCond .eq 43, 3) := by decide +kernel
theorem dX2_ordersDecidedBy_38 : decode cX2_ordersDecidedBy 38 = .ok (.iload_n 3, 1) := by decide +kernel
theorem dX2_ordersDecidedBy_39 : decode cX2_ordersDecidedBy 39 = .ok (.aload_n 0, 1) := by decide +kernel
theorem dX2_ordersDecidedBy_40 : decode cX2_ordersDecidedBy 40 = .ok (.aload_n 1, 1) := by decide +kernel
theorem dX2_ordersDecidedBy_41 : decode cX2_ordersDecidedBy 41 = .ok (.iload 6, 2) := by decide +kernel
theorem dX2_ordersDecidedBy_43 : decode cX2_ordersDecidedBy 43 = .ok (.invokevirtual 95, 3) := by decide +kernel
theorem dX2_ordersDecidedBy_46 : decode cX2_ordersDecidedBy 46 = .ok (.iadd, 1) := by decide +kernel
theorem dX2_ordersDecidedBy_47 : decode cX2_ordersDecidedBy 47 = .ok (.istore_n 3, 1) := by decide +kernel
theorem dX2_ordersDecidedBy_48 : decode cX2_ordersDecidedBy 48 = .ok (.iload 6, 2) := by decide +kernel
theorem dX2_ordersDecidedBy_50 : decode cX2_ordersDecidedBy 50 = .ok (.iload_n 2, 1) := by decide +kernel
theorem dX2_ordersDecidedBy_51 : decode cX2_ordersDecidedBy 51 = .ok (.if_icmp .eq 27, 3) := by decide +kernel
theorem dX2_ordersDecidedBy_54 : decode cX2_ordersDecidedBy 54 = .ok (.iload 4, 2) := by decide +kernel
theorem dX2_ordersDecidedBy_56 : decode cX2_ordersDecidedBy 56 = .ok (.bipush 9, 2) := by decide +kernel
theorem dX2_ordersDecidedBy_58 : decode cX2_ordersDecidedBy 58 = .ok (.if_icmp .ge 20, 3) := by decide +kernel
theorem dX2_ordersDecidedBy_61 : decode cX2_ordersDecidedBy 61 = .ok (.aload_n 0, 1) := by decide +kernel
theorem dX2_ordersDecidedBy_62 : decode cX2_ordersDecidedBy 62 = .ok (.getfield 28, 3) := by decide +kernel
theorem dX2_ordersDecidedBy_65 : decode cX2_ordersDecidedBy 65 = .ok (.iload 4, 2) := by decide +kernel
theorem dX2_ordersDecidedBy_67 : decode cX2_ordersDecidedBy 67 = .ok (.aload_n 0, 1) := by decide +kernel
theorem dX2_ordersDecidedBy_68 : decode cX2_ordersDecidedBy 68 = .ok (.aload_n 1, 1) := by decide +kernel
theorem dX2_ordersDecidedBy_69 : decode cX2_ordersDecidedBy 69 = .ok (.iload 6, 2) := by decide +kernel
theorem dX2_ordersDecidedBy_71 : decode cX2_ordersDecidedBy 71 = .ok (.invokevirtual 95, 3) := by decide +kernel
theorem dX2_ordersDecidedBy_74 : decode cX2_ordersDecidedBy 74 = .ok (.iastore, 1) := by decide +kernel
theorem dX2_ordersDecidedBy_75 : decode cX2_ordersDecidedBy 75 = .ok (.iinc 4 1, 3) := by decide +kernel
theorem dX2_ordersDecidedBy_78 : decode cX2_ordersDecidedBy 78 = .ok (.iinc 6 1, 3) := by decide +kernel
theorem dX2_ordersDecidedBy_81 : decode cX2_ordersDecidedBy 81 = .ok (.goto (-65), 3) := by decide +kernel
theorem dX2_ordersDecidedBy_84 : decode cX2_ordersDecidedBy 84 = .ok (.iconst 0, 1) := by decide +kernel
theorem dX2_ordersDecidedBy_85 : decode cX2_ordersDecidedBy 85 = .ok (.istore 6, 2) := by decide +kernel
theorem dX2_ordersDecidedBy_87 : decode cX2_ordersDecidedBy 87 = .ok (.iconst 0, 1) := by decide +kernel
theorem dX2_ordersDecidedBy_88 : decode cX2_ordersDecidedBy 88 = .ok (.istore 7, 2) := by decide +kernel
theorem dX2_ordersDecidedBy_90 : decode cX2_ordersDecidedBy 90 = .ok (.iload 7, 2) := by decide +kernel
theorem dX2_ordersDecidedBy_92 : decode cX2_ordersDecidedBy 92 = .ok (.iconst 1, 1) := by decide +kernel
theorem dX2_ordersDecidedBy_93 : decode cX2_ordersDecidedBy 93 = .ok (.iload 4, 2) := by decide +kernel
theorem dX2_ordersDecidedBy_95 : decode cX2_ordersDecidedBy 95 = .ok (.ishl, 1) := by decide +kernel
theorem dX2_ordersDecidedBy_96 : decode cX2_ordersDecidedBy 96 = .ok (.if_icmp .ge 136, 3) := by decide +kernel
theorem dX2_ordersDecidedBy_99 : decode cX2_ordersDecidedBy 99 = .ok (.iconst 0, 1) := by decide +kernel
theorem dX2_ordersDecidedBy_100 : decode cX2_ordersDecidedBy 100 = .ok (.istore 8, 2) := by decide +kernel
theorem dX2_ordersDecidedBy_102 : decode cX2_ordersDecidedBy 102 = .ok (.iconst 0, 1) := by decide +kernel
theorem dX2_ordersDecidedBy_103 : decode cX2_ordersDecidedBy 103 = .ok (.istore 9, 2) := by decide +kernel
theorem dX2_ordersDecidedBy_105 : decode cX2_ordersDecidedBy 105 = .ok (.iload 9, 2) := by decide +kernel
theorem dX2_ordersDecidedBy_107 : decode cX2_ordersDecidedBy 107 = .ok (.iload 4, 2) := by decide +kernel
theorem dX2_ordersDecidedBy_109 : decode cX2_ordersDecidedBy 109 = .ok (.if_icmp .ge 43, 3) := by decide +kernel
theorem dX2_ordersDecidedBy_112 : decode cX2_ordersDecidedBy 112 = .ok (.iload 9, 2) := by decide +kernel
theorem dX2_ordersDecidedBy_114 : decode cX2_ordersDecidedBy 114 = .ok (.bipush 9, 2) := by decide +kernel
theorem dX2_ordersDecidedBy_116 : decode cX2_ordersDecidedBy 116 = .ok (.if_icmp .ge 36, 3) := by decide +kernel
theorem dX2_ordersDecidedBy_119 : decode cX2_ordersDecidedBy 119 = .ok (.iload 8, 2) := by decide +kernel
theorem dX2_ordersDecidedBy_121 : decode cX2_ordersDecidedBy 121 = .ok (.iload 7, 2) := by decide +kernel
theorem dX2_ordersDecidedBy_123 : decode cX2_ordersDecidedBy 123 = .ok (.iload 9, 2) := by decide +kernel
theorem dX2_ordersDecidedBy_125 : decode cX2_ordersDecidedBy 125 = .ok (.ishr, 1) := by decide +kernel
theorem dX2_ordersDecidedBy_126 : decode cX2_ordersDecidedBy 126 = .ok (.iconst 1, 1) := by decide +kernel
theorem dX2_ordersDecidedBy_127 : decode cX2_ordersDecidedBy 127 = .ok (.iand, 1) := by decide +kernel
theorem dX2_ordersDecidedBy_128 : decode cX2_ordersDecidedBy 128 = .ok (.iconst 1, 1) := by decide +kernel
theorem dX2_ordersDecidedBy_129 : decode cX2_ordersDecidedBy 129 = .ok (.if_icmp .ne 13, 3) := by decide +kernel
theorem dX2_ordersDecidedBy_132 : decode cX2_ordersDecidedBy 132 = .ok (.aload_n 0, 1) := by decide +kernel
theorem dX2_ordersDecidedBy_133 : decode cX2_ordersDecidedBy 133 = .ok (.getfield 28, 3) := by decide +kernel
theorem dX2_ordersDecidedBy_136 : decode cX2_ordersDecidedBy 136 = .ok (.iload 9, 2) := by decide +kernel
theorem dX2_ordersDecidedBy_138 : decode cX2_ordersDecidedBy 138 = .ok (.iaload, 1) := by decide +kernel
theorem dX2_ordersDecidedBy_139 : decode cX2_ordersDecidedBy 139 = .ok (.goto 4, 3) := by decide +kernel
theorem dX2_ordersDecidedBy_142 : decode cX2_ordersDecidedBy 142 = .ok (.iconst 0, 1) := by decide +kernel
theorem dX2_ordersDecidedBy_143 : decode cX2_ordersDecidedBy 143 = .ok (.iadd, 1) := by decide +kernel
theorem dX2_ordersDecidedBy_144 : decode cX2_ordersDecidedBy 144 = .ok (.istore 8, 2) := by decide +kernel
theorem dX2_ordersDecidedBy_146 : decode cX2_ordersDecidedBy 146 = .ok (.iinc 9 1, 3) := by decide +kernel
theorem dX2_ordersDecidedBy_149 : decode cX2_ordersDecidedBy 149 = .ok (.goto (-44), 3) := by decide +kernel
theorem dX2_ordersDecidedBy_152 : decode cX2_ordersDecidedBy 152 = .ok (.iload 7, 2) := by decide +kernel
theorem dX2_ordersDecidedBy_154 : decode cX2_ordersDecidedBy 154 = .ok (.invokestatic 247, 3) := by decide +kernel
theorem dX2_ordersDecidedBy_157 : decode cX2_ordersDecidedBy 157 = .ok (.istore 9, 2) := by decide +kernel
theorem dX2_ordersDecidedBy_159 : decode cX2_ordersDecidedBy 159 = .ok (.iload 4, 2) := by decide +kernel
theorem dX2_ordersDecidedBy_161 : decode cX2_ordersDecidedBy 161 = .ok (.iload 9, 2) := by decide +kernel
theorem dX2_ordersDecidedBy_163 : decode cX2_ordersDecidedBy 163 = .ok (.isub, 1) := by decide +kernel
theorem dX2_ordersDecidedBy_164 : decode cX2_ordersDecidedBy 164 = .ok (.istore 10, 2) := by decide +kernel
theorem dX2_ordersDecidedBy_166 : decode cX2_ordersDecidedBy 166 = .ok (.iload 8, 2) := by decide +kernel
theorem dX2_ordersDecidedBy_168 : decode cX2_ordersDecidedBy 168 = .ok (.iconst 2, 1) := by decide +kernel
theorem dX2_ordersDecidedBy_169 : decode cX2_ordersDecidedBy 169 = .ok (.imul, 1) := by decide +kernel
theorem dX2_ordersDecidedBy_170 : decode cX2_ordersDecidedBy 170 = .ok (.iload_n 3, 1) := by decide +kernel
theorem dX2_ordersDecidedBy_171 : decode cX2_ordersDecidedBy 171 = .ok (.if_icmp .gt 55, 3) := by decide +kernel
theorem dX2_ordersDecidedBy_174 : decode cX2_ordersDecidedBy 174 = .ok (.iload 8, 2) := by decide +kernel
theorem dX2_ordersDecidedBy_176 : decode cX2_ordersDecidedBy 176 = .ok (.iload 5, 2) := by decide +kernel
theorem dX2_ordersDecidedBy_178 : decode cX2_ordersDecidedBy 178 = .ok (.iadd, 1) := by decide +kernel
theorem dX2_ordersDecidedBy_179 : decode cX2_ordersDecidedBy 179 = .ok (.iconst 2, 1) := by decide +kernel
theorem dX2_ordersDecidedBy_180 : decode cX2_ordersDecidedBy 180 = .ok (.imul, 1) := by decide +kernel
theorem dX2_ordersDecidedBy_181 : decode cX2_ordersDecidedBy 181 = .ok (.iload_n 3, 1) := by decide +kernel
theorem dX2_ordersDecidedBy_182 : decode cX2_ordersDecidedBy 182 = .ok (.if_icmp .le 44, 3) := by decide +kernel
theorem dX2_ordersDecidedBy_185 : decode cX2_ordersDecidedBy 185 = .ok (.iload 10, 2) := by decide +kernel
theorem dX2_ordersDecidedBy_187 : decode cX2_ordersDecidedBy 187 = .ok (.ifCond .lt 39, 3) := by decide +kernel
theorem dX2_ordersDecidedBy_190 : decode cX2_ordersDecidedBy 190 = .ok (.iload 10, 2) := by decide +kernel
theorem dX2_ordersDecidedBy_192 : decode cX2_ordersDecidedBy 192 = .ok (.getstatic 252, 3) := by decide +kernel
theorem dX2_ordersDecidedBy_195 : decode cX2_ordersDecidedBy 195 = .ok (.arraylength, 1) := by decide +kernel
theorem dX2_ordersDecidedBy_196 : decode cX2_ordersDecidedBy 196 = .ok (.if_icmp .ge 30, 3) := by decide +kernel
theorem dX2_ordersDecidedBy_199 : decode cX2_ordersDecidedBy 199 = .ok (.iload 9, 2) := by decide +kernel
theorem dX2_ordersDecidedBy_201 : decode cX2_ordersDecidedBy 201 = .ok (.getstatic 252, 3) := by decide +kernel
theorem dX2_ordersDecidedBy_204 : decode cX2_ordersDecidedBy 204 = .ok (.arraylength, 1) := by decide +kernel
theorem dX2_ordersDecidedBy_205 : decode cX2_ordersDecidedBy 205 = .ok (.if_icmp .ge 21, 3) := by decide +kernel
theorem dX2_ordersDecidedBy_208 : decode cX2_ordersDecidedBy 208 = .ok (.iload 6, 2) := by decide +kernel
theorem dX2_ordersDecidedBy_210 : decode cX2_ordersDecidedBy 210 = .ok (.getstatic 252, 3) := by decide +kernel
theorem dX2_ordersDecidedBy_213 : decode cX2_ordersDecidedBy 213 = .ok (.iload 9, 2) := by decide +kernel
theorem dX2_ordersDecidedBy_215 : decode cX2_ordersDecidedBy 215 = .ok (.iaload, 1) := by decide +kernel
theorem dX2_ordersDecidedBy_216 : decode cX2_ordersDecidedBy 216 = .ok (.getstatic 252, 3) := by decide +kernel
theorem dX2_ordersDecidedBy_219 : decode cX2_ordersDecidedBy 219 = .ok (.iload 10, 2) := by decide +kernel
theorem dX2_ordersDecidedBy_221 : decode cX2_ordersDecidedBy 221 = .ok (.iaload, 1) := by decide +kernel
theorem dX2_ordersDecidedBy_222 : decode cX2_ordersDecidedBy 222 = .ok (.imul, 1) := by decide +kernel
theorem dX2_ordersDecidedBy_223 : decode cX2_ordersDecidedBy 223 = .ok (.iadd, 1) := by decide +kernel
theorem dX2_ordersDecidedBy_224 : decode cX2_ordersDecidedBy 224 = .ok (.istore 6, 2) := by decide +kernel
theorem dX2_ordersDecidedBy_226 : decode cX2_ordersDecidedBy 226 = .ok (.iinc 7 1, 3) := by decide +kernel
theorem dX2_ordersDecidedBy_229 : decode cX2_ordersDecidedBy 229 = .ok (.goto (-139), 3) := by decide +kernel
theorem dX2_ordersDecidedBy_232 : decode cX2_ordersDecidedBy 232 = .ok (.iload 6, 2) := by decide +kernel
theorem dX2_ordersDecidedBy_234 : decode cX2_ordersDecidedBy 234 = .ok (.ireturn, 1) := by decide +kernel
noncomputable def b_X2_ordersDecidedBy_0 (rec : Rk) (x1 x2 : Int) (h : Hp) : Option (Int × Hp) :=
  bd (f_X2_portion x1 x2 h) fun v1 h2 =>
  rec 1 [x1, x2, 0, 0, v1, 0] h2
noncomputable def b_X2_ordersDecidedBy_1 (rec : Rk) (x1 x2 x3 x4 x5 x6 : Int) (h : Hp) : Option (Int × Hp) :=
  rf (gR h 2 0 0) 0 fun j1 =>
  bd (f_X0_size j1 h) fun v2 h3 =>
  if v2 ≤ x6 then (
    rec 3 [x3, x4, x5, 0, 0] h3
  ) else (
    bd (f_X2_isAboard x1 x6 h3) fun v4 h5 =>
    if v4 = 0 then (
      rec 2 [x1, x2, x3, x4, x5, x6] h5
    ) else (
      bd (f_X2_portion x1 x6 h5) fun v6 h7 =>
      ck (-2147483648 ≤ x3 + v6 ∧ x3 + v6 < 2147483648) <|
      lt (x3 + v6) fun z8 =>
      if x6 = x2 then (
        rec 2 [x1, x2, z8, x4, x5, x6] h7
      ) else (
        if 9 ≤ x4 then (
          rec 2 [x1, x2, z8, x4, x5, x6] h7
        ) else (
          bd (f_X2_portion x1 x6 h7) fun v9 h10 =>
          ck (0 ≤ x4 ∧ x4 < 9) <|
          lt (sI h10 32 0 x4 v9) fun h11 =>
          ck (-2147483648 ≤ x4 + 1 ∧ x4 + 1 < 2147483648) <|
          rec 2 [x1, x2, z8, x4 + 1, x5, x6] h11
        )
      )
    )
  )
noncomputable def b_X2_ordersDecidedBy_2 (rec : Rk) (x1 x2 x3 x4 x5 x6 : Int) (h : Hp) : Option (Int × Hp) :=
  ck (-2147483648 ≤ x6 + 1 ∧ x6 + 1 < 2147483648) <|
  rec 1 [x1, x2, x3, x4, x5, x6 + 1] h
noncomputable def b_X2_ordersDecidedBy_3 (rec : Rk) (x3 x4 x5 x6 x7 : Int) (h : Hp) : Option (Int × Hp) :=
  if (bshl 1 x4) ≤ x7 then (
    some (x6, h)
  ) else (
    rec 4 [x3, x4, x5, x6, x7, 0, 0] h
  )
noncomputable def b_X2_ordersDecidedBy_4 (rec : Rk) (x3 x4 x5 x6 x7 x8 x9 : Int) (h : Hp) : Option (Int × Hp) :=
  if x4 ≤ x9 then (
    rec 6 [x3, x4, x5, x6, x7, x8] h
  ) else (
    if 9 ≤ x9 then (
      rec 6 [x3, x4, x5, x6, x7, x8] h
    ) else (
      if (band (bshr x7 x9) 1) = 1 then (
        ck (0 ≤ x9 ∧ x9 < 9) <|
        rec 5 [x3, x4, x5, x6, x7, x9, gI h 32 0 x9, x8] h
      ) else (
        rec 5 [x3, x4, x5, x6, x7, x9, 0, x8] h
      )
    )
  )
noncomputable def b_X2_ordersDecidedBy_5 (rec : Rk) (x3 x4 x5 x6 x7 x9 y0 y1 : Int) (h : Hp) : Option (Int × Hp) :=
  ck (-2147483648 ≤ y1 + y0 ∧ y1 + y0 < 2147483648) <|
  lt (y1 + y0) fun z1 =>
  ck (-2147483648 ≤ x9 + 1 ∧ x9 + 1 < 2147483648) <|
  rec 4 [x3, x4, x5, x6, x7, z1, x9 + 1] h
noncomputable def b_X2_ordersDecidedBy_6 (rec : Rk) (x3 x4 x5 x6 x7 x8 : Int) (h : Hp) : Option (Int × Hp) :=
  bd (f_J6_bitCount_0f7a4 x7 h) fun v1 h2 =>
  ck (-2147483648 ≤ x4 - v1 ∧ x4 - v1 < 2147483648) <|
  lt (x4 - v1) fun z3 =>
  ck (-2147483648 ≤ x8 * 2 ∧ x8 * 2 < 2147483648) <|
  if x3 < (x8 * 2) then (
    rec 7 [x3, x4, x5, x6, x7] h2
  ) else (
    ck (-2147483648 ≤ x8 + x5 ∧ x8 + x5 < 2147483648) <|
    ck (-2147483648 ≤ (x8 + x5) * 2 ∧ (x8 + x5) * 2 < 2147483648) <|
    if ((x8 + x5) * 2) ≤ x3 then (
      rec 7 [x3, x4, x5, x6, x7] h2
    ) else (
      if z3 < 0 then (
        rec 7 [x3, x4, x5, x6, x7] h2
      ) else (
        if 10 ≤ z3 then (
          rec 7 [x3, x4, x5, x6, x7] h2
        ) else (
          if 10 ≤ v1 then (
            rec 7 [x3, x4, x5, x6, x7] h2
          ) else (
            ck (0 ≤ v1 ∧ v1 < 10) <|
            ck (0 ≤ z3 ∧ z3 < 10) <|
            ck (-2147483648 ≤ (xOrd.getD (v1).toNat 0) * (xOrd.getD (z3).toNat 0) ∧ (xOrd.getD (v1).toNat 0) * (xOrd.getD (z3).toNat 0) < 2147483648) <|
            ck (-2147483648 ≤ x6 + ((xOrd.getD (v1).toNat 0) * (xOrd.getD (z3).toNat 0)) ∧ x6 + ((xOrd.getD (v1).toNat 0) * (xOrd.getD (z3).toNat 0)) < 2147483648) <|
            lt (x6 + ((xOrd.getD (v1).toNat 0) * (xOrd.getD (z3).toNat 0))) fun z4 =>
            rec 7 [x3, x4, x5, z4, x7] h2
          )
        )
      )
    )
  )
noncomputable def b_X2_ordersDecidedBy_7 (rec : Rk) (x3 x4 x5 x6 x7 : Int) (h : Hp) : Option (Int × Hp) :=
  ck (-2147483648 ≤ x7 + 1 ∧ x7 + 1 < 2147483648) <|
  rec 3 [x3, x4, x5, x6, x7 + 1] h
noncomputable def g_X2_ordersDecidedBy (n : Nat) : Rk := Nat.rec (motive := fun _ => Rk) (fun _ _ _ => none) (fun _ rec k l h => if k = 0 then b_X2_ordersDecidedBy_0 rec (l.getD 0 0) (l.getD 1 0) h else if k = 1 then b_X2_ordersDecidedBy_1 rec (l.getD 0 0) (l.getD 1 0) (l.getD 2 0) (l.getD 3 0) (l.getD 4 0) (l.getD 5 0) h else if k = 2 then b_X2_ordersDecidedBy_2 rec (l.getD 0 0) (l.getD 1 0) (l.getD 2 0) (l.getD 3 0) (l.getD 4 0) (l.getD 5 0) h else if k = 3 then b_X2_ordersDecidedBy_3 rec (l.getD 0 0) (l.getD 1 0) (l.getD 2 0) (l.getD 3 0) (l.getD 4 0) h else if k = 4 then b_X2_ordersDecidedBy_4 rec (l.getD 0 0) (l.getD 1 0) (l.getD 2 0) (l.getD 3 0) (l.getD 4 0) (l.getD 5 0) (l.getD 6 0) h else if k = 5 then b_X2_ordersDecidedBy_5 rec (l.getD 0 0) (l.getD 1 0) (l.getD 2 0) (l.getD 3 0) (l.getD 4 0) (l.getD 5 0) (l.getD 6 0) (l.getD 7 0) h else if k = 6 then b_X2_ordersDecidedBy_6 rec (l.getD 0 0) (l.getD 1 0) (l.getD 2 0) (l.getD 3 0) (l.getD 4 0) (l.getD 5 0) h else if k = 7 then b_X2_ordersDecidedBy_7 rec (l.getD 0 0) (l.getD 1 0) (l.getD 2 0) (l.getD 3 0) (l.getD 4 0) h else none) n
noncomputable def f_X2_ordersDecidedBy (x1 x2 : Int) (h : Hp) : Option (Int × Hp) := g_X2_ordersDecidedBy FU 0 [x1, x2] h
set_option maxHeartbeats 4000000 in
set_option maxRecDepth 100000 in
theorem t_X2_ordersDecidedBy_0 (E : xE) (d : Nat) (rec : Rk) (r : Int × Hp) (hr_16 : ∀ (x1 x2 x3 x4 x5 x6 : Int) (h : Hp), Lay h → rec 1 [x1, x2, x3, x4, x5, x6] h = some r → X E mX2_ordersDecidedBy (d + 4) (0, 0) (0, 0) 16 [some (xr 2 0), some (xr 10 x1), some (xi x2), some (xi x3), some (xi x4), some (xi x5), some (xi x6), none, none, none, none] [] h (PoI r)) (x1 x2 : Int) (h : Hp) (hL : Lay h) (hF : b_X2_ordersDecidedBy_0 rec x1 x2 h = some r) : X E mX2_ordersDecidedBy (d + 4) (0, 0) (0, 0) 0 [some (xr 2 0), some (xr 10 x1), some (xi x2), none, none, none, none, none, none, none, none] [] h (PoI r) := by
  unfold b_X2_ordersDecidedBy_0 at hF
  refine x_iconst (n := 0) (b := 1) dX2_ordersDecidedBy_0 (by decide) rfl ?_
  refine x_istore_n (i := 3) (b := 2) (ls2 := [some (xr 2 0), some (xr 10 x1), some (xi x2), some (xi 0), none, none, none, none, none, none, none]) dX2_ordersDecidedBy_1 rfl (Nat.le_of_ble_eq_true rfl) rfl rfl ?_
  refine x_iconst (n := 0) (b := 3) dX2_ordersDecidedBy_2 (by decide) rfl ?_
  refine x_istore (i := 4) (b := 5) (ls2 := [some (xr 2 0), some (xr 10 x1), some (xi x2), some (xi 0), some (xi 0), none, none, none, none, none, none]) dX2_ordersDecidedBy_3 (Nat.le_of_ble_eq_true rfl) rfl rfl ?_
  refine x_aload_n (i := 0) (b := 6) dX2_ordersDecidedBy_5 rfl rfl rfl ?_
  refine x_aload_n (i := 1) (b := 7) dX2_ordersDecidedBy_6 rfl rfl rfl ?_
  refine x_iload_n (i := 2) (b := 8) dX2_ordersDecidedBy_7 rfl rfl rfl ?_
  obtain ⟨v1, h2, hq, hF⟩ := bd_e hF
  refine x_callV (as := [xr 10 x1, xi x2]) (rest := []) (b := 11) (c_X2_portion d x1 x2 h _ hL hq) dX2_ordersDecidedBy_8 cw_X2_95 ⟨_, _, rfl, Nat.le_of_ble_eq_true rfl⟩ rfl rfl (Nat.le_of_ble_eq_true rfl) ⟨Nat.le_refl _, Nat.le_refl _⟩ rfl (fun rv hh hp _ => ?_)
  obtain ⟨rfl, rfl, hL⟩ := hp
  refine x_istore (i := 5) (b := 13) (ls2 := [some (xr 2 0), some (xr 10 x1), some (xi x2), some (xi 0), some (xi 0), some (xi v1), none, none, none, none, none]) dX2_ordersDecidedBy_11 (Nat.le_of_ble_eq_true rfl) rfl rfl ?_
  refine x_iconst (n := 0) (b := 14) dX2_ordersDecidedBy_13 (by decide) rfl ?_
  refine x_istore (i := 6) (b := 16) (ls2 := [some (xr 2 0), some (xr 10 x1), some (xi x2), some (xi 0), some (xi 0), some (xi v1), some (xi 0), none, none, none, none]) dX2_ordersDecidedBy_14 (Nat.le_of_ble_eq_true rfl) rfl rfl ?_
  exact x_dp (ls2 := [some (xr 2 0), some (xr 10 x1), some (xi x2), some (xi 0), some (xi 0), some (xi v1), some (xi 0), none, none, none, none]) ⟨rfl, rfl, rfl, rfl, rfl, rfl, rfl, trivial⟩ (hr_16 x1 x2 0 0 v1 0 h2 hL hF)
set_option maxHeartbeats 4000000 in
set_option maxRecDepth 100000 in
theorem t_X2_ordersDecidedBy_1 (E : xE) (d : Nat) (rec : Rk) (r : Int × Hp) (hr_78 : ∀ (x1 x2 x3 x4 x5 x6 : Int) (h : Hp), Lay h → rec 2 [x1, x2, x3, x4, x5, x6] h = some r → X E mX2_ordersDecidedBy (d + 4) (0, 0) (0, 0) 78 [some (xr 2 0), some (xr 10 x1), some (xi x2), some (xi x3), some (xi x4), some (xi x5), some (xi x6), none, none, none, none] [] h (PoI r)) (hr_90 : ∀ (x3 x4 x5 x6 x7 : Int) (h : Hp), Lay h → rec 3 [x3, x4, x5, x6, x7] h = some r → X E mX2_ordersDecidedBy (d + 4) (0, 0) (0, 0) 90 [some (xr 2 0), none, none, some (xi x3), some (xi x4), some (xi x5), some (xi x6), some (xi x7), none, none, none] [] h (PoI r)) (x1 x2 x3 x4 x5 x6 : Int) (h : Hp) (hL : Lay h) (hF : b_X2_ordersDecidedBy_1 rec x1 x2 x3 x4 x5 x6 h = some r) : X E mX2_ordersDecidedBy (d + 4) (0, 0) (0, 0) 16 [some (xr 2 0), some (xr 10 x1), some (xi x2), some (xi x3), some (xi x4), some (xi x5), some (xi x6), none, none, none, none] [] h (PoI r) := by
  unfold b_X2_ordersDecidedBy_1 at hF
  refine x_iload (i := 6) (b := 18) dX2_ordersDecidedBy_16 rfl rfl ?_
  refine x_aload_n (i := 0) (b := 19) dX2_ordersDecidedBy_18 rfl rfl rfl ?_
  obtain ⟨j1, e_j1, hF⟩ := rf_e hF
  refine x_getR (v := some (0, j1)) (b := 22) fk_X2_43 dX2_ordersDecidedBy_19 rfl e_j1 rfl ?_
  obtain ⟨v2, h3, hq, hF⟩ := bd_e hF
  refine x_callV (as := []) (rest := [xi x6]) (b := 25) (c_X0_size (d + 2) j1 h _ hL hq) dX2_ordersDecidedBy_22 cw_X2_79 ⟨_, _, rfl, Nat.le_of_ble_eq_true rfl⟩ rfl rfl (Nat.le_of_ble_eq_true rfl) ⟨Nat.le_refl _, Nat.le_refl _⟩ rfl (fun rv hh hp _ => ?_)
  obtain ⟨rfl, rfl, hL⟩ := hp
  refine x_icmp_ge (tgt := 84) (b := 28) dX2_ordersDecidedBy_25 (by decide) rfl (fun hc => ?_) (fun hc => ?_)
  · replace hF := br_T hc hF
    refine x_iconst (n := 0) (b := 85) dX2_ordersDecidedBy_84 (by decide) rfl ?_
    refine x_istore (i := 6) (b := 87) (ls2 := [some (xr 2 0), some (xr 10 x1), some (xi x2), some (xi x3), some (xi x4), some (xi x5), some (xi 0), none, none, none, none]) dX2_ordersDecidedBy_85 (Nat.le_of_ble_eq_true rfl) rfl rfl ?_
    refine x_iconst (n := 0) (b := 88) dX2_ordersDecidedBy_87 (by decide) rfl ?_
    refine x_istore (i := 7) (b := 90) (ls2 := [some (xr 2 0), some (xr 10 x1), some (xi x2), some (xi x3), some (xi x4), some (xi x5), some (xi 0), some (xi 0), none, none, none]) dX2_ordersDecidedBy_88 (Nat.le_of_ble_eq_true rfl) rfl rfl ?_
    exact x_dp (ls2 := [some (xr 2 0), none, none, some (xi x3), some (xi x4), some (xi x5), some (xi 0), some (xi 0), none, none, none]) ⟨rfl, rfl, rfl, rfl, rfl, rfl, trivial⟩ (hr_90 x3 x4 x5 0 0 h3 hL hF)
  · replace hF := br_F hc hF
    refine x_aload_n (i := 0) (b := 29) dX2_ordersDecidedBy_28 rfl rfl rfl ?_
    refine x_aload_n (i := 1) (b := 30) dX2_ordersDecidedBy_29 rfl rfl rfl ?_
    refine x_iload (i := 6) (b := 32) dX2_ordersDecidedBy_30 rfl rfl ?_
    obtain ⟨v4, h5, hq, hF⟩ := bd_e hF
    refine x_callV (as := [xr 10 x1, xi x6]) (rest := []) (b := 35) (c_X2_isAboard d x1 x6 h3 _ hL hq) dX2_ordersDecidedBy_32 cw_X2_83 ⟨_, _, rfl, Nat.le_of_ble_eq_true rfl⟩ rfl rfl (Nat.le_of_ble_eq_true rfl) ⟨Nat.le_refl _, Nat.le_refl _⟩ rfl (fun rv hh hp _ => ?_)
    obtain ⟨rfl, rfl, hL⟩ := hp
    refine x_if_eq (tgt := 78) (b := 38) dX2_ordersDecidedBy_35 (by decide) rfl (fun hc => ?_) (fun hc => ?_)
    · replace hF := br_T hc hF
      exact x_dp (ls2 := [some (xr 2 0), some (xr 10 x1), some (xi x2), some (xi x3), some (xi x4), some (xi x5), some (xi x6), none, none, none, none]) ⟨rfl, rfl, rfl, rfl, rfl, rfl, rfl, trivial⟩ (hr_78 x1 x2 x3 x4 x5 x6 h5 hL hF)
    · replace hF := br_F hc hF
      refine x_iload_n (i := 3) (b := 39) dX2_ordersDecidedBy_38 rfl rfl rfl ?_
      refine x_aload_n (i := 0) (b := 40) dX2_ordersDecidedBy_39 rfl rfl rfl ?_
      refine x_aload_n (i := 1) (b := 41) dX2_ordersDecidedBy_40 rfl rfl rfl ?_
      refine x_iload (i := 6) (b := 43) dX2_ordersDecidedBy_41 rfl rfl ?_
      obtain ⟨v6, h7, hq, hF⟩ := bd_e hF
      refine x_callV (as := [xr 10 x1, xi x6]) (rest := [xi x3]) (b := 46) (c_X2_portion d x1 x6 h5 _ hL hq) dX2_ordersDecidedBy_43 cw_X2_95 ⟨_, _, rfl, Nat.le_of_ble_eq_true rfl⟩ rfl rfl (Nat.le_of_ble_eq_true rfl) ⟨Nat.le_refl _, Nat.le_refl _⟩ rfl (fun rv hh hp _ => ?_)
      obtain ⟨rfl, rfl, hL⟩ := hp
      obtain ⟨hs, hF⟩ := ck_e hF
      refine x_iadd (b := 47) dX2_ordersDecidedBy_46 hs rfl ?_
      obtain ⟨z8, e_z8, hF⟩ := lt_e hF
      refine x_eq (y := z8) e_z8 ?_
      refine x_istore_n (i := 3) (b := 48) (ls2 := [some (xr 2 0), some (xr 10 x1), some (xi x2), some (xi z8), some (xi x4), some (xi x5), some (xi x6), none, none, none, none]) dX2_ordersDecidedBy_47 rfl (Nat.le_of_ble_eq_true rfl) rfl rfl ?_
      refine x_iload (i := 6) (b := 50) dX2_ordersDecidedBy_48 rfl rfl ?_
      refine x_iload_n (i := 2) (b := 51) dX2_ordersDecidedBy_50 rfl rfl rfl ?_
      refine x_icmp_eq (tgt := 78) (b := 54) dX2_ordersDecidedBy_51 (by decide) rfl (fun hc => ?_) (fun hc => ?_)
      · replace hF := br_T hc hF
        exact x_dp (ls2 := [some (xr 2 0), some (xr 10 x1), some (xi x2), some (xi z8), some (xi x4), some (xi x5), some (xi x6), none, none, none, none]) ⟨rfl, rfl, rfl, rfl, rfl, rfl, rfl, trivial⟩ (hr_78 x1 x2 z8 x4 x5 x6 h7 hL hF)
      · replace hF := br_F hc hF
        refine x_iload (i := 4) (b := 56) dX2_ordersDecidedBy_54 rfl rfl ?_
        refine x_bipush (n := 9) (b := 58) dX2_ordersDecidedBy_56 (by decide) rfl ?_
        refine x_icmp_ge (tgt := 78) (b := 61) dX2_ordersDecidedBy_58 (by decide) rfl (fun hc => ?_) (fun hc => ?_)
        · replace hF := br_T hc hF
          exact x_dp (ls2 := [some (xr 2 0), some (xr 10 x1), some (xi x2), some (xi z8), some (xi x4), some (xi x5), some (xi x6), none, none, none, none]) ⟨rfl, rfl, rfl, rfl, rfl, rfl, rfl, trivial⟩ (hr_78 x1 x2 z8 x4 x5 x6 h7 hL hF)
        · replace hF := br_F hc hF
          refine x_aload_n (i := 0) (b := 62) dX2_ordersDecidedBy_61 rfl rfl rfl ?_
          refine x_getL (j := 0) (t := (32, 0, true)) (b := 65) fk_X2_28 dX2_ordersDecidedBy_62 rfl hL rfl rfl rfl ?_
          refine x_iload (i := 4) (b := 67) dX2_ordersDecidedBy_65 rfl rfl ?_
          refine x_aload_n (i := 0) (b := 68) dX2_ordersDecidedBy_67 rfl rfl rfl ?_
          refine x_aload_n (i := 1) (b := 69) dX2_ordersDecidedBy_68 rfl rfl rfl ?_
          refine x_iload (i := 6) (b := 71) dX2_ordersDecidedBy_69 rfl rfl ?_
          obtain ⟨v9, h10, hq, hF⟩ := bd_e hF
          refine x_callV (as := [xr 10 x1, xi x6]) (rest := [xi x4, xr 32 0]) (b := 74) (c_X2_portion d x1 x6 h7 _ hL hq) dX2_ordersDecidedBy_71 cw_X2_95 ⟨_, _, rfl, Nat.le_of_ble_eq_true rfl⟩ rfl rfl (Nat.le_of_ble_eq_true rfl) ⟨Nat.le_refl _, Nat.le_refl _⟩ rfl (fun rv hh hp _ => ?_)
          obtain ⟨rfl, rfl, hL⟩ := hp
          obtain ⟨hs, hF⟩ := ck_e hF
          have hs1 := hs
          refine x_iast (b := 75) ak_32 dX2_ordersDecidedBy_74 hs1 rfl ?_
          obtain ⟨h11, e_h11, hF⟩ := lt_e hF
          refine x_hp (h2 := h11) e_h11 ?_
          replace hL : Lay h11 := by rw [← e_h11]; exact hL
          obtain ⟨hs, hF⟩ := ck_e hF
          refine x_iinc (i := 4) (b := 78) (ls2 := [some (xr 2 0), some (xr 10 x1), some (xi x2), some (xi z8), some (xi (x4 + 1)), some (xi x5), some (xi x6), none, none, none, none]) dX2_ordersDecidedBy_75 rfl (Nat.le_of_ble_eq_true rfl) hs rfl rfl ?_
          exact x_dp (ls2 := [some (xr 2 0), some (xr 10 x1), some (xi x2), some (xi z8), some (xi (x4 + 1)), some (xi x5), some (xi x6), none, none, none, none]) ⟨rfl, rfl, rfl, rfl, rfl, rfl, rfl, trivial⟩ (hr_78 x1 x2 z8 (x4 + 1) x5 x6 h11 hL hF)
set_option maxHeartbeats 4000000 in
set_option maxRecDepth 100000 in
theorem t_X2_ordersDecidedBy_2 (E : xE) (d : Nat) (rec : Rk) (r : Int × Hp) (hr_16 : ∀ (x1 x2 x3 x4 x5 x6 : Int) (h : Hp), Lay h → rec 1 [x1, x2, x3, x4, x5, x6] h = some r → X E mX2_ordersDecidedBy (d + 4) (0, 0) (0, 0) 16 [some (xr 2 0), some (xr 10 x1), some (xi x2), some (xi x3), some (xi x4), some (xi x5), some (xi x6), none, none, none, none] [] h (PoI r)) (x1 x2 x3 x4 x5 x6 : Int) (h : Hp) (hL : Lay h) (hF : b_X2_ordersDecidedBy_2 rec x1 x2 x3 x4 x5 x6 h = some r) : X E mX2_ordersDecidedBy (d + 4) (0, 0) (0, 0) 78 [some (xr 2 0), some (xr 10 x1), some (xi x2), some (xi x3), some (xi x4), some (xi x5), some (xi x6), none, none, none, none] [] h (PoI r) := by
  unfold b_X2_ordersDecidedBy_2 at hF
  obtain ⟨hs, hF⟩ := ck_e hF
  refine x_iinc (i := 6) (b := 81) (ls2 := [some (xr 2 0), some (xr 10 x1), some (xi x2), some (xi x3), some (xi x4), some (xi x5), some (xi (x6 + 1)), none, none, none, none]) dX2_ordersDecidedBy_78 rfl (Nat.le_of_ble_eq_true rfl) hs rfl rfl ?_
  refine x_goto (tgt := 16) dX2_ordersDecidedBy_81 (by decide) ?_
  exact x_dp (ls2 := [some (xr 2 0), some (xr 10 x1), some (xi x2), some (xi x3), some (xi x4), some (xi x5), some (xi (x6 + 1)), none, none, none, none]) ⟨rfl, rfl, rfl, rfl, rfl, rfl, rfl, trivial⟩ (hr_16 x1 x2 x3 x4 x5 (x6 + 1) h hL hF)
set_option maxHeartbeats 4000000 in
set_option maxRecDepth 100000 in
theorem t_X2_ordersDecidedBy_3 (E : xE) (d : Nat) (rec : Rk) (r : Int × Hp) (hr_105 : ∀ (x3 x4 x5 x6 x7 x8 x9 : Int) (h : Hp), Lay h → rec 4 [x3, x4, x5, x6, x7, x8, x9] h = some r → X E mX2_ordersDecidedBy (d + 4) (0, 0) (0, 0) 105 [some (xr 2 0), none, none, some (xi x3), some (xi x4), some (xi x5), some (xi x6), some (xi x7), some (xi x8), some (xi x9), none] [] h (PoI r)) (x3 x4 x5 x6 x7 : Int) (h : Hp) (hL : Lay h) (hF : b_X2_ordersDecidedBy_3 rec x3 x4 x5 x6 x7 h = some r) : X E mX2_ordersDecidedBy (d + 4) (0, 0) (0, 0) 90 [some (xr 2 0), none, none, some (xi x3), some (xi x4), some (xi x5), some (xi x6), some (xi x7), none, none, none] [] h (PoI r) := by
  unfold b_X2_ordersDecidedBy_3 at hF
  refine x_iload (i := 7) (b := 92) dX2_ordersDecidedBy_90 rfl rfl ?_
  refine x_iconst (n := 1) (b := 93) dX2_ordersDecidedBy_92 (by decide) rfl ?_
  refine x_iload (i := 4) (b := 95) dX2_ordersDecidedBy_93 rfl rfl ?_
  refine x_ishl (b := 96) dX2_ordersDecidedBy_95 rfl ?_
  refine x_icmp_ge (tgt := 232) (b := 99) dX2_ordersDecidedBy_96 (by decide) rfl (fun hc => ?_) (fun hc => ?_)
  · replace hF := br_T hc hF
    refine x_iload (i := 6) (b := 234) dX2_ordersDecidedBy_232 rfl rfl ?_
    refine x_ireturn dX2_ordersDecidedBy_234 rfl ⟨Nat.le_refl _, Nat.le_refl _⟩ ?_
    cases hF
    exact ⟨rfl, rfl, hL⟩
  · replace hF := br_F hc hF
    refine x_iconst (n := 0) (b := 100) dX2_ordersDecidedBy_99 (by decide) rfl ?_
    refine x_istore (i := 8) (b := 102) (ls2 := [some (xr 2 0), none, none, some (xi x3), some (xi x4), some (xi x5), some (xi x6), some (xi x7), some (xi 0), none, none]) dX2_ordersDecidedBy_100 (Nat.le_of_ble_eq_true rfl) rfl rfl ?_
    refine x_iconst (n := 0) (b := 103) dX2_ordersDecidedBy_102 (by decide) rfl ?_
    refine x_istore (i := 9) (b := 105) (ls2 := [some (xr 2 0), none, none, some (xi x3), some (xi x4), some (xi x5), some (xi x6), some (xi x7), some (xi 0), some (xi 0), none]) dX2_ordersDecidedBy_103 (Nat.le_of_ble_eq_true rfl) rfl rfl ?_
    exact x_dp (ls2 := [some (xr 2 0), none, none, some (xi x3), some (xi x4), some (xi x5), some (xi x6), some (xi x7), some (xi 0), some (xi 0), none]) ⟨rfl, rfl, rfl, rfl, rfl, rfl, rfl, rfl, trivial⟩ (hr_105 x3 x4 x5 x6 x7 0 0 h hL hF)
set_option maxHeartbeats 4000000 in
set_option maxRecDepth 100000 in
theorem t_X2_ordersDecidedBy_4 (E : xE) (d : Nat) (rec : Rk) (r : Int × Hp) (hr_143 : ∀ (x3 x4 x5 x6 x7 x9 y0 y1 : Int) (h : Hp), Lay h → rec 5 [x3, x4, x5, x6, x7, x9, y0, y1] h = some r → X E mX2_ordersDecidedBy (d + 4) (0, 0) (0, 0) 143 [some (xr 2 0), none, none, some (xi x3), some (xi x4), some (xi x5), some (xi x6), some (xi x7), none, some (xi x9), none] [xi y0, xi y1] h (PoI r)) (hr_152 : ∀ (x3 x4 x5 x6 x7 x8 : Int) (h : Hp), Lay h → rec 6 [x3, x4, x5, x6, x7, x8] h = some r → X E mX2_ordersDecidedBy (d + 4) (0, 0) (0, 0) 152 [some (xr 2 0), none, none, some (xi x3), some (xi x4), some (xi x5), some (xi x6), some (xi x7), some (xi x8), none, none] [] h (PoI r)) (x3 x4 x5 x6 x7 x8 x9 : Int) (h : Hp) (hL : Lay h) (hF : b_X2_ordersDecidedBy_4 rec x3 x4 x5 x6 x7 x8 x9 h = some r) : X E mX2_ordersDecidedBy (d + 4) (0, 0) (0, 0) 105 [some (xr 2 0), none, none, some (xi x3), some (xi x4), some (xi x5), some (xi x6), some (xi x7), some (xi x8), some (xi x9), none] [] h (PoI r) := by
  unfold b_X2_ordersDecidedBy_4 at hF
  refine x_iload (i := 9) (b := 107) dX2_ordersDecidedBy_105 rfl rfl ?_
  refine x_iload (i := 4) (b := 109) dX2_ordersDecidedBy_107 rfl rfl ?_
  refine x_icmp_ge (tgt := 152) (b := 112) dX2_ordersDecidedBy_109 (by decide) rfl (fun hc => ?_) (fun hc => ?_)
  · replace hF := br_T hc hF
    exact x_dp (ls2 := [some (xr 2 0), none, none, some (xi x3), some (xi x4), some (xi x5), some (xi x6), some (xi x7), some (xi x8), none, none]) ⟨rfl, rfl, rfl, rfl, rfl, rfl, rfl, trivial⟩ (hr_152 x3 x4 x5 x6 x7 x8 h hL hF)
  · replace hF := br_F hc hF
    refine x_iload (i := 9) (b := 114) dX2_ordersDecidedBy_112 rfl rfl ?_
    refine x_bipush (n := 9) (b := 116) dX2_ordersDecidedBy_114 (by decide) rfl ?_
    refine x_icmp_ge (tgt := 152) (b := 119) dX2_ordersDecidedBy_116 (by decide) rfl (fun hc => ?_) (fun hc => ?_)
    · replace hF := br_T hc hF
      exact x_dp (ls2 := [some (xr 2 0), none, none, some (xi x3), some (xi x4), some (xi x5), some (xi x6), some (xi x7), some (xi x8), none, none]) ⟨rfl, rfl, rfl, rfl, rfl, rfl, rfl, trivial⟩ (hr_152 x3 x4 x5 x6 x7 x8 h hL hF)
    · replace hF := br_F hc hF
      refine x_iload (i := 8) (b := 121) dX2_ordersDecidedBy_119 rfl rfl ?_
      refine x_iload (i := 7) (b := 123) dX2_ordersDecidedBy_121 rfl rfl ?_
      refine x_iload (i := 9) (b := 125) dX2_ordersDecidedBy_123 rfl rfl ?_
      refine x_ishr (b := 126) dX2_ordersDecidedBy_125 rfl ?_
      refine x_iconst (n := 1) (b := 127) dX2_ordersDecidedBy_126 (by decide) rfl ?_
      refine x_iand (b := 128) dX2_ordersDecidedBy_127 rfl ?_
      refine x_iconst (n := 1) (b := 129) dX2_ordersDecidedBy_128 (by decide) rfl ?_
      refine x_icmp_ne (tgt := 142) (b := 132) dX2_ordersDecidedBy_129 (by decide) rfl (fun hc => ?_) (fun hc => ?_)
      · replace hF := br_F hc hF
        refine x_iconst (n := 0) (b := 143) dX2_ordersDecidedBy_142 (by decide) rfl ?_
        exact x_dp (ls2 := [some (xr 2 0), none, none, some (xi x3), some (xi x4), some (xi x5), some (xi x6), some (xi x7), none, some (xi x9), none]) ⟨rfl, rfl, rfl, rfl, rfl, rfl, rfl, trivial⟩ (hr_143 x3 x4 x5 x6 x7 x9 0 x8 h hL hF)
      · replace hF := br_T hc hF
        refine x_aload_n (i := 0) (b := 133) dX2_ordersDecidedBy_132 rfl rfl rfl ?_
        refine x_getL (j := 0) (t := (32, 0, true)) (b := 136) fk_X2_28 dX2_ordersDecidedBy_133 rfl hL rfl rfl rfl ?_
        refine x_iload (i := 9) (b := 138) dX2_ordersDecidedBy_136 rfl rfl ?_
        obtain ⟨hs, hF⟩ := ck_e hF
        refine x_iald (v := gI h 32 0 x9) (b := 139) ak_32 dX2_ordersDecidedBy_138 hs rfl rfl ?_
        refine x_goto (tgt := 143) dX2_ordersDecidedBy_139 (by decide) ?_
        exact x_dp (ls2 := [some (xr 2 0), none, none, some (xi x3), some (xi x4), some (xi x5), some (xi x6), some (xi x7), none, some (xi x9), none]) ⟨rfl, rfl, rfl, rfl, rfl, rfl, rfl, trivial⟩ (hr_143 x3 x4 x5 x6 x7 x9 (gI h 32 0 x9) x8 h hL hF)
set_option maxHeartbeats 4000000 in
set_option maxRecDepth 100000 in
theorem t_X2_ordersDecidedBy_5 (E : xE) (d : Nat) (rec : Rk) (r : Int × Hp) (hr_105 : ∀ (x3 x4 x5 x6 x7 x8 x9 : Int) (h : Hp), Lay h → rec 4 [x3, x4, x5, x6, x7, x8, x9] h = some r → X E mX2_ordersDecidedBy (d + 4) (0, 0) (0, 0) 105 [some (xr 2 0), none, none, some (xi x3), some (xi x4), some (xi x5), some (xi x6), some (xi x7), some (xi x8), some (xi x9), none] [] h (PoI r)) (x3 x4 x5 x6 x7 x9 y0 y1 : Int) (h : Hp) (hL : Lay h) (hF : b_X2_ordersDecidedBy_5 rec x3 x4 x5 x6 x7 x9 y0 y1 h = some r) : X E mX2_ordersDecidedBy (d + 4) (0, 0) (0, 0) 143 [some (xr 2 0), none, none, some (xi x3), some (xi x4), some (xi x5), some (xi x6), some (xi x7), none, some (xi x9), none] [xi y0, xi y1] h (PoI r) := by
  unfold b_X2_ordersDecidedBy_5 at hF
  obtain ⟨hs, hF⟩ := ck_e hF
  refine x_iadd (b := 144) dX2_ordersDecidedBy_143 hs rfl ?_
  obtain ⟨z1, e_z1, hF⟩ := lt_e hF
  refine x_eq (y := z1) e_z1 ?_
  refine x_istore (i := 8) (b := 146) (ls2 := [some (xr 2 0), none, none, some (xi x3), some (xi x4), some (xi x5), some (xi x6), some (xi x7), some (xi z1), some (xi x9), none]) dX2_ordersDecidedBy_144 (Nat.le_of_ble_eq_true rfl) rfl rfl ?_
  obtain ⟨hs, hF⟩ := ck_e hF
  refine x_iinc (i := 9) (b := 149) (ls2 := [some (xr 2 0), none, none, some (xi x3), some (xi x4), some (xi x5), some (xi x6), some (xi x7), some (xi z1), some (xi (x9 + 1)), none]) dX2_ordersDecidedBy_146 rfl (Nat.le_of_ble_eq_true rfl) hs rfl rfl ?_
  refine x_goto (tgt := 105) dX2_ordersDecidedBy_149 (by decide) ?_
  exact x_dp (ls2 := [some (xr 2 0), none, none, some (xi x3), some (xi x4), some (xi x5), some (xi x6), some (xi x7), some (xi z1), some (xi (x9 + 1)), none]) ⟨rfl, rfl, rfl, rfl, rfl, rfl, rfl, rfl, trivial⟩ (hr_105 x3 x4 x5 x6 x7 z1 (x9 + 1) h hL hF)
set_option maxHeartbeats 4000000 in
set_option maxRecDepth 100000 in
theorem t_X2_ordersDecidedBy_6 (E : xE) (d : Nat) (rec : Rk) (r : Int × Hp) (hr_226 : ∀ (x3 x4 x5 x6 x7 : Int) (h : Hp), Lay h → rec 7 [x3, x4, x5, x6, x7] h = some r → X E mX2_ordersDecidedBy (d + 4) (0, 0) (0, 0) 226 [some (xr 2 0), none, none, some (xi x3), some (xi x4), some (xi x5), some (xi x6), some (xi x7), none, none, none] [] h (PoI r)) (x3 x4 x5 x6 x7 x8 : Int) (h : Hp) (hL : Lay h) (hF : b_X2_ordersDecidedBy_6 rec x3 x4 x5 x6 x7 x8 h = some r) : X E mX2_ordersDecidedBy (d + 4) (0, 0) (0, 0) 152 [some (xr 2 0), none, none, some (xi x3), some (xi x4), some (xi x5), some (xi x6), some (xi x7), some (xi x8), none, none] [] h (PoI r) := by
  unfold b_X2_ordersDecidedBy_6 at hF
  refine x_iload (i := 7) (b := 154) dX2_ordersDecidedBy_152 rfl rfl ?_
  obtain ⟨v1, h2, hq, hF⟩ := bd_e hF
  refine x_callS (as := [xi x7]) (rest := []) (b := 157) (c_J6_bitCount_0f7a4 (d + 2) x7 h _ hL hq) dX2_ordersDecidedBy_154 cw_X2_247 rfl rfl (Nat.le_of_ble_eq_true rfl) ⟨Nat.le_refl _, Nat.le_refl _⟩ rfl (fun rv hh hp _ => ?_)
  obtain ⟨rfl, rfl, hL⟩ := hp
  refine x_istore (i := 9) (b := 159) (ls2 := [some (xr 2 0), none, none, some (xi x3), some (xi x4), some (xi x5), some (xi x6), some (xi x7), some (xi x8), some (xi v1), none]) dX2_ordersDecidedBy_157 (Nat.le_of_ble_eq_true rfl) rfl rfl ?_
  refine x_iload (i := 4) (b := 161) dX2_ordersDecidedBy_159 rfl rfl ?_
  refine x_iload (i := 9) (b := 163) dX2_ordersDecidedBy_161 rfl rfl ?_
  obtain ⟨hs, hF⟩ := ck_e hF
  refine x_isub (b := 164) dX2_ordersDecidedBy_163 hs rfl ?_
  obtain ⟨z3, e_z3, hF⟩ := lt_e hF
  refine x_eq (y := z3) e_z3 ?_
  refine x_istore (i := 10) (b := 166) (ls2 := [some (xr 2 0), none, none, some (xi x3), some (xi x4), some (xi x5), some (xi x6), some (xi x7), some (xi x8), some (xi v1), some (xi z3)]) dX2_ordersDecidedBy_164 (Nat.le_of_ble_eq_true rfl) rfl rfl ?_
  refine x_iload (i := 8) (b := 168) dX2_ordersDecidedBy_166 rfl rfl ?_
  refine x_iconst (n := 2) (b := 169) dX2_ordersDecidedBy_168 (by decide) rfl ?_
  obtain ⟨hs, hF⟩ := ck_e hF
  refine x_imul (b := 170) dX2_ordersDecidedBy_169 hs rfl ?_
  refine x_iload_n (i := 3) (b := 171) dX2_ordersDecidedBy_170 rfl rfl rfl ?_
  refine x_icmp_gt (tgt := 226) (b := 174) dX2_ordersDecidedBy_171 (by decide) rfl (fun hc => ?_) (fun hc => ?_)
  · replace hF := br_T hc hF
    exact x_dp (ls2 := [some (xr 2 0), none, none, some (xi x3), some (xi x4), some (xi x5), some (xi x6), some (xi x7), none, none, none]) ⟨rfl, rfl, rfl, rfl, rfl, rfl, trivial⟩ (hr_226 x3 x4 x5 x6 x7 h2 hL hF)
  · replace hF := br_F hc hF
    refine x_iload (i := 8) (b := 176) dX2_ordersDecidedBy_174 rfl rfl ?_
    refine x_iload (i := 5) (b := 178) dX2_ordersDecidedBy_176 rfl rfl ?_
    obtain ⟨hs, hF⟩ := ck_e hF
    refine x_iadd (b := 179) dX2_ordersDecidedBy_178 hs rfl ?_
    refine x_iconst (n := 2) (b := 180) dX2_ordersDecidedBy_179 (by decide) rfl ?_
    obtain ⟨hs, hF⟩ := ck_e hF
    refine x_imul (b := 181) dX2_ordersDecidedBy_180 hs rfl ?_
    refine x_iload_n (i := 3) (b := 182) dX2_ordersDecidedBy_181 rfl rfl rfl ?_
    refine x_icmp_le (tgt := 226) (b := 185) dX2_ordersDecidedBy_182 (by decide) rfl (fun hc => ?_) (fun hc => ?_)
    · replace hF := br_T hc hF
      exact x_dp (ls2 := [some (xr 2 0), none, none, some (xi x3), some (xi x4), some (xi x5), some (xi x6), some (xi x7), none, none, none]) ⟨rfl, rfl, rfl, rfl, rfl, rfl, trivial⟩ (hr_226 x3 x4 x5 x6 x7 h2 hL hF)
    · replace hF := br_F hc hF
      refine x_iload (i := 10) (b := 187) dX2_ordersDecidedBy_185 rfl rfl ?_
      refine x_if_lt (tgt := 226) (b := 190) dX2_ordersDecidedBy_187 (by decide) rfl (fun hc => ?_) (fun hc => ?_)
      · replace hF := br_T hc hF
        exact x_dp (ls2 := [some (xr 2 0), none, none, some (xi x3), some (xi x4), some (xi x5), some (xi x6), some (xi x7), none, none, none]) ⟨rfl, rfl, rfl, rfl, rfl, rfl, trivial⟩ (hr_226 x3 x4 x5 x6 x7 h2 hL hF)
      · replace hF := br_F hc hF
        refine x_iload (i := 10) (b := 192) dX2_ordersDecidedBy_190 rfl rfl ?_
        refine x_gsOrdN (idx := 0) (b := 195) rfl dX2_ordersDecidedBy_192 rfl ?_
        refine x_alenO (v := 10) (b := 196) dX2_ordersDecidedBy_195 rfl rfl ?_
        refine x_icmp_ge (tgt := 226) (b := 199) dX2_ordersDecidedBy_196 (by decide) rfl (fun hc => ?_) (fun hc => ?_)
        · replace hF := br_T hc hF
          exact x_dp (ls2 := [some (xr 2 0), none, none, some (xi x3), some (xi x4), some (xi x5), some (xi x6), some (xi x7), none, none, none]) ⟨rfl, rfl, rfl, rfl, rfl, rfl, trivial⟩ (hr_226 x3 x4 x5 x6 x7 h2 hL hF)
        · replace hF := br_F hc hF
          refine x_iload (i := 9) (b := 201) dX2_ordersDecidedBy_199 rfl rfl ?_
          refine x_gsOrdN (idx := 0) (b := 204) rfl dX2_ordersDecidedBy_201 rfl ?_
          refine x_alenO (v := 10) (b := 205) dX2_ordersDecidedBy_204 rfl rfl ?_
          refine x_icmp_ge (tgt := 226) (b := 208) dX2_ordersDecidedBy_205 (by decide) rfl (fun hc => ?_) (fun hc => ?_)
          · replace hF := br_T hc hF
            exact x_dp (ls2 := [some (xr 2 0), none, none, some (xi x3), some (xi x4), some (xi x5), some (xi x6), some (xi x7), none, none, none]) ⟨rfl, rfl, rfl, rfl, rfl, rfl, trivial⟩ (hr_226 x3 x4 x5 x6 x7 h2 hL hF)
          · replace hF := br_F hc hF
            refine x_iload (i := 6) (b := 210) dX2_ordersDecidedBy_208 rfl rfl ?_
            refine x_gsOrdN (idx := 0) (b := 213) rfl dX2_ordersDecidedBy_210 rfl ?_
            refine x_iload (i := 9) (b := 215) dX2_ordersDecidedBy_213 rfl rfl ?_
            obtain ⟨hs, hF⟩ := ck_e hF
            refine x_ialdO (v := xOrd.getD (v1).toNat 0) (b := 216) dX2_ordersDecidedBy_215 hs rfl rfl ?_
            refine x_gsOrdN (idx := 0) (b := 219) rfl dX2_ordersDecidedBy_216 rfl ?_
            refine x_iload (i := 10) (b := 221) dX2_ordersDecidedBy_219 rfl rfl ?_
            obtain ⟨hs, hF⟩ := ck_e hF
            refine x_ialdO (v := xOrd.getD (z3).toNat 0) (b := 222) dX2_ordersDecidedBy_221 hs rfl rfl ?_
            obtain ⟨hs, hF⟩ := ck_e hF
            refine x_imul (b := 223) dX2_ordersDecidedBy_222 hs rfl ?_
            obtain ⟨hs, hF⟩ := ck_e hF
            refine x_iadd (b := 224) dX2_ordersDecidedBy_223 hs rfl ?_
            obtain ⟨z4, e_z4, hF⟩ := lt_e hF
            refine x_eq (y := z4) e_z4 ?_
            refine x_istore (i := 6) (b := 226) (ls2 := [some (xr 2 0), none, none, some (xi x3), some (xi x4), some (xi x5), some (xi z4), some (xi x7), some (xi x8), some (xi v1), some (xi z3)]) dX2_ordersDecidedBy_224 (Nat.le_of_ble_eq_true rfl) rfl rfl ?_
            exact x_dp (ls2 := [some (xr 2 0), none, none, some (xi x3), some (xi x4), some (xi x5), some (xi z4), some (xi x7), none, none, none]) ⟨rfl, rfl, rfl, rfl, rfl, rfl, trivial⟩ (hr_226 x3 x4 x5 z4 x7 h2 hL hF)
set_option maxHeartbeats 4000000 in
set_option maxRecDepth 100000 in
theorem t_X2_ordersDecidedBy_7 (E : xE) (d : Nat) (rec : Rk) (r : Int × Hp) (hr_90 : ∀ (x3 x4 x5 x6 x7 : Int) (h : Hp), Lay h → rec 3 [x3, x4, x5, x6, x7] h = some r → X E mX2_ordersDecidedBy (d + 4) (0, 0) (0, 0) 90 [some (xr 2 0), none, none, some (xi x3), some (xi x4), some (xi x5), some (xi x6), some (xi x7), none, none, none] [] h (PoI r)) (x3 x4 x5 x6 x7 : Int) (h : Hp) (hL : Lay h) (hF : b_X2_ordersDecidedBy_7 rec x3 x4 x5 x6 x7 h = some r) : X E mX2_ordersDecidedBy (d + 4) (0, 0) (0, 0) 226 [some (xr 2 0), none, none, some (xi x3), some (xi x4), some (xi x5), some (xi x6), some (xi x7), none, none, none] [] h (PoI r) := by
  unfold b_X2_ordersDecidedBy_7 at hF
  obtain ⟨hs, hF⟩ := ck_e hF
  refine x_iinc (i := 7) (b := 229) (ls2 := [some (xr 2 0), none, none, some (xi x3), some (xi x4), some (xi x5), some (xi x6), some (xi (x7 + 1)), none, none, none]) dX2_ordersDecidedBy_226 rfl (Nat.le_of_ble_eq_true rfl) hs rfl rfl ?_
  refine x_goto (tgt := 90) dX2_ordersDecidedBy_229 (by decide) ?_
  exact x_dp (ls2 := [some (xr 2 0), none, none, some (xi x3), some (xi x4), some (xi x5), some (xi x6), some (xi (x7 + 1)), none, none, none]) ⟨rfl, rfl, rfl, rfl, rfl, rfl, trivial⟩ (hr_90 x3 x4 x5 x6 (x7 + 1) h hL hF)
set_option maxHeartbeats 4000000 in
set_option maxRecDepth 100000 in
theorem u_X2_ordersDecidedBy (E : xE) (d : Nat) (r : Int × Hp) : ∀ n : Nat, (∀ (x1 x2 : Int) (h : Hp), Lay h → g_X2_ordersDecidedBy n 0 [x1, x2] h = some r → X E mX2_ordersDecidedBy (d + 4) (0, 0) (0, 0) 0 [some (xr 2 0), some (xr 10 x1), some (xi x2), none, none, none, none, none, none, none, none] [] h (PoI r)) ∧ (∀ (x1 x2 x3 x4 x5 x6 : Int) (h : Hp), Lay h → g_X2_ordersDecidedBy n 1 [x1, x2, x3, x4, x5, x6] h = some r → X E mX2_ordersDecidedBy (d + 4) (0, 0) (0, 0) 16 [some (xr 2 0), some (xr 10 x1), some (xi x2), some (xi x3), some (xi x4), some (xi x5), some (xi x6), none, none, none, none] [] h (PoI r)) ∧ (∀ (x1 x2 x3 x4 x5 x6 : Int) (h : Hp), Lay h → g_X2_ordersDecidedBy n 2 [x1, x2, x3, x4, x5, x6] h = some r → X E mX2_ordersDecidedBy (d + 4) (0, 0) (0, 0) 78 [some (xr 2 0), some (xr 10 x1), some (xi x2), some (xi x3), some (xi x4), some (xi x5), some (xi x6), none, none, none, none] [] h (PoI r)) ∧ (∀ (x3 x4 x5 x6 x7 : Int) (h : Hp), Lay h → g_X2_ordersDecidedBy n 3 [x3, x4, x5, x6, x7] h = some r → X E mX2_ordersDecidedBy (d + 4) (0, 0) (0, 0) 90 [some (xr 2 0), none, none, some (xi x3), some (xi x4), some (xi x5), some (xi x6), some (xi x7), none, none, none] [] h (PoI r)) ∧ (∀ (x3 x4 x5 x6 x7 x8 x9 : Int) (h : Hp), Lay h → g_X2_ordersDecidedBy n 4 [x3, x4, x5, x6, x7, x8, x9] h = some r → X E mX2_ordersDecidedBy (d + 4) (0, 0) (0, 0) 105 [some (xr 2 0), none, none, some (xi x3), some (xi x4), some (xi x5), some (xi x6), some (xi x7), some (xi x8), some (xi x9), none] [] h (PoI r)) ∧ (∀ (x3 x4 x5 x6 x7 x9 y0 y1 : Int) (h : Hp), Lay h → g_X2_ordersDecidedBy n 5 [x3, x4, x5, x6, x7, x9, y0, y1] h = some r → X E mX2_ordersDecidedBy (d + 4) (0, 0) (0, 0) 143 [some (xr 2 0), none, none, some (xi x3), some (xi x4), some (xi x5), some (xi x6), some (xi x7), none, some (xi x9), none] [xi y0, xi y1] h (PoI r)) ∧ (∀ (x3 x4 x5 x6 x7 x8 : Int) (h : Hp), Lay h → g_X2_ordersDecidedBy n 6 [x3, x4, x5, x6, x7, x8] h = some r → X E mX2_ordersDecidedBy (d + 4) (0, 0) (0, 0) 152 [some (xr 2 0), none, none, some (xi x3), some (xi x4), some (xi x5), some (xi x6), some (xi x7), some (xi x8), none, none] [] h (PoI r)) ∧ (∀ (x3 x4 x5 x6 x7 : Int) (h : Hp), Lay h → g_X2_ordersDecidedBy n 7 [x3, x4, x5, x6, x7] h = some r → X E mX2_ordersDecidedBy (d + 4) (0, 0) (0, 0) 226 [some (xr 2 0), none, none, some (xi x3), some (xi x4), some (xi x5), some (xi x6), some (xi x7), none, none, none] [] h (PoI r)) := by
  intro n
  induction n with
  | zero => exact ⟨fun _ _ _ _ hF => no_e (r := r) hF, fun _ _ _ _ _ _ _ _ hF => no_e (r := r) hF, fun _ _ _ _ _ _ _ _ hF => no_e (r := r) hF, fun _ _ _ _ _ _ _ hF => no_e (r := r) hF, fun _ _ _ _ _ _ _ _ _ hF => no_e (r := r) hF, fun _ _ _ _ _ _ _ _ _ _ hF => no_e (r := r) hF, fun _ _ _ _ _ _ _ _ hF => no_e (r := r) hF, fun _ _ _ _ _ _ _ hF => no_e (r := r) hF⟩
  | succ n ih => exact ⟨fun x1 x2 h hL hF => t_X2_ordersDecidedBy_0 E d (g_X2_ordersDecidedBy n) r ih.2.1 x1 x2 h hL hF, fun x1 x2 x3 x4 x5 x6 h hL hF => t_X2_ordersDecidedBy_1 E d (g_X2_ordersDecidedBy n) r ih.2.2.1 ih.2.2.2.1 x1 x2 x3 x4 x5 x6 h hL hF, fun x1 x2 x3 x4 x5 x6 h hL hF => t_X2_ordersDecidedBy_2 E d (g_X2_ordersDecidedBy n) r ih.2.1 x1 x2 x3 x4 x5 x6 h hL hF, fun x3 x4 x5 x6 x7 h hL hF => t_X2_ordersDecidedBy_3 E d (g_X2_ordersDecidedBy n) r ih.2.2.2.2.1 x3 x4 x5 x6 x7 h hL hF, fun x3 x4 x5 x6 x7 x8 x9 h hL hF => t_X2_ordersDecidedBy_4 E d (g_X2_ordersDecidedBy n) r ih.2.2.2.2.2.1 ih.2.2.2.2.2.2.1 x3 x4 x5 x6 x7 x8 x9 h hL hF, fun x3 x4 x5 x6 x7 x9 y0 y1 h hL hF => t_X2_ordersDecidedBy_5 E d (g_X2_ordersDecidedBy n) r ih.2.2.2.2.1 x3 x4 x5 x6 x7 x9 y0 y1 h hL hF, fun x3 x4 x5 x6 x7 x8 h hL hF => t_X2_ordersDecidedBy_6 E d (g_X2_ordersDecidedBy n) r ih.2.2.2.2.2.2.2 x3 x4 x5 x6 x7 x8 h hL hF, fun x3 x4 x5 x6 x7 h hL hF => t_X2_ordersDecidedBy_7 E d (g_X2_ordersDecidedBy n) r ih.2.2.2.1 x3 x4 x5 x6 x7 h hL hF⟩
theorem c_X2_ordersDecidedBy (d : Nat) (x1 x2 : Int) (h : Hp) (r : Int × Hp) (hL : Lay h) (hF : f_X2_ordersDecidedBy x1 x2 h = some r) : Sp mX2_ordersDecidedBy (d + 4) (0, 0) [xr 2 0, xr 10 x1, xi x2] h (PoI r) :=
  sp_of (by decide) rfl (Nat.le_of_ble_eq_true rfl) (ls := [some (xr 2 0), some (xr 10 x1), some (xi x2), none, none, none, none, none, none, none, none]) rfl (fun E _ => (u_X2_ordersDecidedBy E d r FU).1 x1 x2 h hL hF)
theorem dX2_poll_0 : decode cX2_poll 0 = .ok (.iconst 0, 1) := by decide +kernel
theorem dX2_poll_1 : decode cX2_poll 1 = .ok (.istore_n 2, 1) := by decide +kernel
theorem dX2_poll_2 : decode cX2_poll 2 = .ok (.iload_n 2, 1) := by decide +kernel
theorem dX2_poll_3 : decode cX2_poll 3 = .ok (.iconst 4, 1) := by decide +kernel
theorem dX2_poll_4 : decode cX2_poll 4 = .ok (.if_icmp .ge 16, 3) := by decide +kernel
theorem dX2_poll_7 : decode cX2_poll 7 = .ok (.aload_n 0, 1) := by decide +kernel
theorem dX2_poll_8 : decode cX2_poll 8 = .ok (.getfield 25, 3) := by decide +kernel
theorem dX2_poll_11 : decode cX2_poll 11 = .ok (.iload_n 2, 1) := by decide +kernel
theorem dX2_poll_12 : decode cX2_poll 12 = .ok (.iconst 0, 1) := by decide +kernel
theorem dX2_poll_13 : decode cX2_poll 13 = .ok (.iastore, 1) := by decide +kernel
theorem dX2_poll_14 : decode cX2_poll 14 = .ok (.iinc 2 1, 3) := by decide +kernel
theorem dX2_poll_17 : decode cX2_poll 17 = .ok (.goto (-15), 3) := by decide +kernel
theorem dX2_poll_20 : decode cX2_poll 20 = .ok (.iconst 0, 1) := by decide +kernel
theorem dX2_poll_21 : decode cX2_poll 21 = .ok (.istore_n 2, 1) := by decide +kernel
theorem dX2_poll_22 : decode cX2_poll 22 = .ok (.iload_n 2, 1) := by decide +kernel
theorem dX2_poll_23 : decode cX2_poll 23 = .ok (.aload_n 0, 1) := by decide +kernel
theorem dX2_poll_24 : decode cX2_poll 24 = .ok (.getfield 43, 3) := by decide +kernel
theorem dX2_poll_27 : decode cX2_poll 27 = .ok (.invokevirtual 79, 3) := by decide +kernel
theorem dX2_poll_30 : decode cX2_poll 30 = .ok (.if_icmp .ge 56, 3) := by decide +kernel
theorem dX2_poll_33 : decode cX2_poll 33 = .ok (.aload_n 0, 1) := by decide +kernel
theorem dX2_poll_34 : decode cX2_poll 34 = .ok (.getfield 22, 3) := by decide +kernel
theorem dX2_poll_37 : decode cX2_poll 37 = .ok (.iload_n 2, 1) := by decide +kernel
theorem dX2_poll_38 : decode cX2_poll 38 = .ok (.aload_n 0, 1) := by decide +kernel
theorem dX2_poll_39 : decode cX2_poll 39 = .ok (.getfield 18, 3) := by decide +kernel
theorem dX2_poll_42 : decode cX2_poll 42 = .ok (.iload_n 2, 1) := by decide +kernel
theorem dX2_poll_43 : decode cX2_poll 43 = .ok (.iaload, 1) := by decide +kernel
theorem dX2_poll_44 : decode cX2_poll 44 = .ok (.ifCond .le 18, 3) := by decide +kernel
theorem dX2_poll_47 : decode cX2_poll 47 = .ok (.aload_n 0, 1) := by decide +kernel
theorem dX2_poll_48 : decode cX2_poll 48 = .ok (.aload_n 1, 1) := by decide +kernel
theorem dX2_poll_49 : decode cX2_poll 49 = .ok (.iload_n 2, 1) := by decide +kernel
theorem dX2_poll_50 : decode cX2_poll 50 = .ok (.aload_n 0, 1) := by decide +kernel
theorem dX2_poll_51 : decode cX2_poll 51 = .ok (.getfield 18, 3) := by decide +kernel
theorem dX2_poll_54 : decode cX2_poll 54 = .ok (.iload_n 2, 1) := by decide +kernel
theorem dX2_poll_55 : decode cX2_poll 55 = .ok (.iaload, 1) := by decide +kernel
theorem dX2_poll_56 : decode cX2_poll 56 = .ok (.invokevirtual 170, 3) := by decide +kernel
theorem dX2_poll_59 : decode cX2_poll 59 = .ok (.goto 4, 3) := by decide +kernel
theorem dX2_poll_62 : decode cX2_poll 62 = .ok (.iconst (-1), 1) := by decide +kernel
theorem dX2_poll_63 : decode cX2_poll 63 = .ok (.iastore, 1) := by decide +kernel
theorem dX2_poll_64 : decode cX2_poll 64 = .ok (.aload_n 0, 1) := by decide +kernel
theorem dX2_poll_65 : decode cX2_poll 65 = .ok (.aload_n 0, 1) := by decide +kernel
theorem dX2_poll_66 : decode cX2_poll 66 = .ok (.getfield 22, 3) := by decide +kernel
theorem dX2_poll_69 : decode cX2_poll 69 = .ok (.iload_n 2, 1) := by decide +kernel
theorem dX2_poll_70 : decode cX2_poll 70 = .ok (.iaload, 1) := by decide +kernel
theorem dX2_poll_71 : decode cX2_poll 71 = .ok (.aload_n 0, 1) := by decide +kernel
theorem dX2_poll_72 : decode cX2_poll 72 = .ok (.getfield 18, 3) := by decide +kernel
theorem dX2_poll_75 : decode cX2_poll 75 = .ok (.iload_n 2, 1) := by decide +kernel
theorem dX2_poll_76 : decode cX2_poll 76 = .ok (.iaload, 1) := by decide +kernel
theorem dX2_poll_77 : decode cX2_poll 77 = .ok (.invokevirtual 174, 3) := by decide +kernel
theorem dX2_poll_80 : decode cX2_poll 80 = .ok (.iinc 2 1, 3) := by decide +kernel
theorem dX2_poll_83 : decode cX2_poll 83 = .ok (.goto (-61), 3) := by decide +kernel
theorem dX2_poll_86 : decode cX2_poll 86 = .ok (.aload_n 0, 1) := by decide +kernel
theorem dX2_poll_87 : decode cX2_poll 87 = .ok (.getfield 43, 3) := by decide +kernel
theorem dX2_poll_90 : decode cX2_poll 90 = .ok (.getfield 124, 3) := by decide +kernel
theorem dX2_poll_93 : decode cX2_poll 93 = .ok (.astore_n 2, 1) := by decide +kernel
theorem dX2_poll_94 : decode cX2_poll 94 = .ok (.iconst 0, 1) := by decide +kernel
theorem dX2_poll_95 : decode cX2_poll 95 = .ok (.istore_n 3, 1) := by decide +kernel
theorem dX2_poll_96 : decode cX2_poll 96 = .ok (.aload_n 0, 1) := by decide +kernel
theorem dX2_poll_97 : decode cX2_poll 97 = .ok (.getfield 9, 3) := by decide +kernel
theorem dX2_poll_100 : decode cX2_poll 100 = .ok (.iconst 1, 1) := by decide +kernel
theorem dX2_poll_101 : decode cX2_poll 101 = .ok (.if_icmp .eq 56, 3) := by decide +kernel
theorem dX2_poll_104 : decode cX2_poll 104 = .ok (.iload_n 3, 1) := by decide +kernel
theorem dX2_poll_105 : decode cX2_poll 105 = .ok (.aload_n 2, 1) := by decide +kernel
theorem dX2_poll_106 : decode cX2_poll 106 = .ok (.getfield 178, 3) := by decide +kernel
theorem dX2_poll_109 : decode cX2_poll 109 = .ok (.if_icmp .ge 48, 3) := by decide +kernel
theorem dX2_poll_112 : decode cX2_poll 112 = .ok (.iload_n 3, 1) := by decide +kernel
theorem dX2_poll_113 : decode cX2_poll 113 = .ok (.iconst 3, 1) := by decide +kernel
theorem dX2_poll_114 : decode cX2_poll 114 = .ok (.if_icmp .ge 43, 3) := by decide +kernel
theorem dX2_poll_117 : decode cX2_poll 117 = .ok (.aload_n 2, 1) := by decide +kernel
theorem dX2_poll_118 : decode cX2_poll 118 = .ok (.iload_n 3, 1) := by decide +kernel
theorem dX2_poll_119 : decode cX2_poll 119 = .ok (.aload_n 1, 1) := by decide +kernel
theorem dX2_poll_120 : decode cX2_poll 120 = .ok (.getfield 157, 3) := by decide +kernel
theorem dX2_poll_123 : decode cX2_poll 123 = .ok (.invokevirtual 181, 3) := by decide +kernel
theorem dX2_poll_126 : decode cX2_poll 126 = .ok (.aload_n 2, 1) := by decide +kernel
theorem dX2_poll_127 : decode cX2_poll 127 = .ok (.getfield 184, 3) := by decide +kernel
theorem dX2_poll_130 : decode cX2_poll 130 = .ok (.iload_n 3, 1) := by decide +kernel
theorem dX2_poll_131 : decode cX2_poll 131 = .ok (.iaload, 1) := by decide +kernel
theorem dX2_poll_132 : decode cX2_poll 132 = .ok (.if_icmp .gt 19, 3) := by decide +kernel
theorem dX2_poll_135 : decode cX2_poll 135 = .ok (.aload_n 0, 1) := by decide +kernel
theorem dX2_poll_136 : decode cX2_poll 136 = .ok (.aload_n 0, 1) := by decide +kernel
theorem dX2_poll_137 : decode cX2_poll 137 = .ok (.aload_n 1, 1) := by decide +kernel
theorem dX2_poll_138 : decode cX2_poll 138 = .ok (.iload_n 3, 1) := by decide +kernel
theorem dX2_poll_139 : decode cX2_poll 139 = .ok (.invokevirtual 187, 3) := by decide +kernel
theorem dX2_poll_142 : decode cX2_poll 142 = .ok (.aload_n 2, 1) := by decide +kernel
theorem dX2_poll_143 : decode cX2_poll 143 = .ok (.getfield 190, 3) := by decide +kernel
theorem dX2_poll_146 : decode cX2_poll 146 = .ok (.iload_n 3, 1) := by decide +kernel
theorem dX2_poll_147 : decode cX2_poll 147 = .ok (.iaload, 1) := by decide +kernel
theorem dX2_poll_148 : decode cX2_poll 148 = .ok (.invokevirtual 174, 3) := by decide +kernel
theorem dX2_poll_151 : decode cX2_poll 151 = .ok (.iinc 3 1, 3) := by decide +kernel
theorem dX2_poll_154 : decode cX2_poll 154 = .ok (.goto (-58), 3) := by decide +kernel
theorem dX2_poll_157 : decode cX2_poll 157 = .ok (.iconst 0, 1) := by decide +kernel
theorem dX2_poll_158 : decode cX2_poll 158 = .ok (.istore_n 3, 1) := by decide +kernel
theorem dX2_poll_159 : decode cX2_poll 159 = .ok (.aload_n 0, 1) := by decide +kernel
theorem dX2_poll_160 : decode cX2_poll 160 = .ok (.getfield 9, 3) := by decide +kernel
theorem dX2_poll_163 : decode cX2_poll 163 = .ok (.iconst 2, 1) := by decide +kernel
theorem dX2_poll_164 : decode cX2_poll 164 = .ok (.if_icmp .eq 63, 3) := by decide +kernel
theorem dX2_poll_167 : decode cX2_poll 167 = .ok (.iload_n 3, 1) := by decide +kernel
theorem dX2_poll_168 : decode cX2_poll 168 = .ok (.aload_n 0, 1) := by decide +kernel
theorem dX2_poll_169 : decode cX2_poll 169 = .ok (.getfield 43, 3) := by decide +kernel
theorem dX2_poll_172 : decode cX2_poll 172 = .ok (.getfield 193, 3) := by decide +kernel
theorem dX2_poll_175 : decode cX2_poll 175 = .ok (.if_icmp .ge 52, 3) := by decide +kernel
theorem dX2_poll_178 : decode cX2_poll 178 = .ok (.iload_n 3, 1) := by decide +kernel
theorem dX2_poll_179 : decode cX2_poll 179 = .ok (.iconst 4, 1) := by decide +kernel
theorem dX2_poll_180 : decode cX2_poll 180 = .ok (.if_icmp .ge 47, 3) := by decide +kernel
theorem dX2_poll_183 : decode cX2_poll 183 = .ok (.aload_n 0, 1) := by decide +kernel
theorem dX2_poll_184 : decode cX2_poll 184 = .ok (.getfield 43, 3) := by decide +kernel
theorem dX2_poll_187 : decode cX2_poll 187 = .ok (.getfield 196, 3) := by decide +kernel
theorem dX2_poll_190 : decode cX2_poll 190 = .ok (.iload_n 3, 1) := by decide +kernel
theorem dX2_poll_191 : decode cX2_poll 191 = .ok (.iaload, 1) := by decide +kernel
theorem dX2_poll_192 : decode cX2_poll 192 = .ok (.aload_n 1, 1) := by decide +kernel
theorem dX2_poll_193 : decode cX2_poll 193 = .ok (.getfield 73, 3) := by decide +kernel
theorem dX2_poll_196 : decode cX2_poll 196 = .ok (.if_icmp .ne 25, 3) := by decide +kernel
theorem dX2_poll_199 : decode cX2_poll 199 = .ok (.aload_n 0, 1) := by decide +kernel
theorem dX2_poll_200 : decode cX2_poll 200 = .ok (.aload_n 0, 1) := by decide +kernel
theorem dX2_poll_201 : decode cX2_poll 201 = .ok (.getfield 43, 3) := by decide +kernel
theorem dX2_poll_204 : decode cX2_poll 204 = .ok (.getfield 199, 3) := by decide +kernel
theorem dX2_poll_207 : decode cX2_poll 207 = .ok (.iload_n 3, 1) := by decide +kernel
theorem dX2_poll_208 : decode cX2_poll 208 = .ok (.iaload, 1) := by decide +kernel
theorem dX2_poll_209 : decode cX2_poll 209 = .ok (.aload_n 0, 1) := by decide +kernel
theorem dX2_poll_210 : decode cX2_poll 210 = .ok (.getfield 43, 3) := by decide +kernel
theorem dX2_poll_213 : decode cX2_poll 213 = .ok (.getfield 202, 3) := by decide +kernel
theorem dX2_poll_216 : decode cX2_poll 216 = .ok (.iload_n 3, 1) := by decide +kernel
theorem dX2_poll_217 : decode cX2_poll 217 = .ok (.iaload, 1) := by decide +kernel
theorem dX2_poll_218 : decode cX2_poll 218 = .ok (.invokevirtual 174, 3) := by decide +kernel
theorem dX2_poll_221 : decode cX2_poll 221 = .ok (.iinc 3 1, 3) := by decide +kernel
theorem dX2_poll_224 : decode cX2_poll 224 = .ok (.goto (-65), 3) := by decide +kernel
theorem dX2_poll_227 : decode cX2_poll 227 = .ok (.return_, 1) := by decide +kernel
noncomputable def b_X2_poll_0 (rec : Rk) (x1 : Int) (h : Hp) : Option (Int × Hp) :=
  rec 1 [x1, 0] h
noncomputable def b_X2_poll_1 (rec : Rk) (x1 x2 : Int) (h : Hp) : Option (Int × Hp) :=
  if 4 ≤ x2 then (
    rec 2 [x1, 0] h
  ) else (
    ck (0 ≤ x2 ∧ x2 < 4) <|
    lt (sI h 31 0 x2 0) fun h1 =>
    ck (-2147483648 ≤ x2 + 1 ∧ x2 + 1 < 2147483648) <|
    rec 1 [x1, x2 + 1] h1
  )
noncomputable def b_X2_poll_2 (rec : Rk) (x1 x2 : Int) (h : Hp) : Option (Int × Hp) :=
  rf (gR h 2 0 0) 0 fun j1 =>
  bd (f_X0_size j1 h) fun v2 h3 =>
  if v2 ≤ x2 then (
    rf (gR h3 2 0 0) 0 fun j4 =>
    rec 4 [x1, j4, 0] h3
  ) else (
    ck (0 ≤ x2 ∧ x2 < 9) <|
    if (gI h3 29 0 x2) ≤ 0 then (
      rec 3 [x1, x2, (-1), x2] h3
    ) else (
      ck (0 ≤ x2 ∧ x2 < 9) <|
      bd (f_X2_wishOf x1 x2 (gI h3 29 0 x2) h3) fun v5 h6 =>
      rec 3 [x1, x2, v5, x2] h6
    )
  )
noncomputable def b_X2_poll_3 (rec : Rk) (x1 x2 y0 y1 : Int) (h : Hp) : Option (Int × Hp) :=
  ck (0 ≤ y1 ∧ y1 < 9) <|
  lt (sI h 30 0 y1 y0) fun h1 =>
  ck (0 ≤ x2 ∧ x2 < 9) <|
  ck (0 ≤ x2 ∧ x2 < 9) <|
  bd (f_X2_give (gI h1 30 0 x2) (gI h1 29 0 x2) h1) fun v2 h3 =>
  ck (-2147483648 ≤ x2 + 1 ∧ x2 + 1 < 2147483648) <|
  rec 2 [x1, x2 + 1] h3
noncomputable def b_X2_poll_4 (rec : Rk) (x1 x2 x3 : Int) (h : Hp) : Option (Int × Hp) :=
  if (gI h 2 0 1) = 1 then (
    rec 6 [x1] h
  ) else (
    if (gI h 9 x2 6) ≤ x3 then (
      rec 6 [x1] h
    ) else (
      if 3 ≤ x3 then (
        rec 6 [x1] h
      ) else (
        bd (f_X9_fromIsle x2 x3 (gI h 10 x1 1) h) fun v1 h2 =>
        ck (0 ≤ x3 ∧ x3 < 3) <|
        if (gI h2 53 x2 x3) < v1 then (
          rec 5 [x1, x2, x3] h2
        ) else (
          bd (f_X2_bribe x1 x3 h2) fun v3 h4 =>
          ck (0 ≤ x3 ∧ x3 < 3) <|
          bd (f_X2_give v3 (gI h4 54 x2 x3) h4) fun v5 h6 =>
          rec 5 [x1, x2, x3] h6
        )
      )
    )
  )
noncomputable def b_X2_poll_5 (rec : Rk) (x1 x2 x3 : Int) (h : Hp) : Option (Int × Hp) :=
  ck (-2147483648 ≤ x3 + 1 ∧ x3 + 1 < 2147483648) <|
  rec 4 [x1, x2, x3 + 1] h
noncomputable def b_X2_poll_6 (rec : Rk) (x1 : Int) (h : Hp) : Option (Int × Hp) :=
  rec 7 [x1, 0] h
noncomputable def b_X2_poll_7 (rec : Rk) (x1 x3 : Int) (h : Hp) : Option (Int × Hp) :=
  if (gI h 2 0 1) = 2 then (
    some (0, h)
  ) else (
    rf (gR h 2 0 0) 0 fun j1 =>
    if (gI h 0 j1 10) ≤ x3 then (
      some (0, h)
    ) else (
      if 4 ≤ x3 then (
        some (0, h)
      ) else (
        rf (gR h 2 0 0) 0 fun j2 =>
        ck (0 ≤ x3 ∧ x3 < 4) <|
        if (gI h 22 j2 x3) = (gI h 10 x1 0) then (
          rf (gR h 2 0 0) 0 fun j3 =>
          ck (0 ≤ x3 ∧ x3 < 4) <|
          rf (gR h 2 0 0) 0 fun j4 =>
          ck (0 ≤ x3 ∧ x3 < 4) <|
          bd (f_X2_give (gI h 23 j3 x3) (gI h 24 j4 x3) h) fun v5 h6 =>
          rec 8 [x1, x3] h6
        ) else (
          rec 8 [x1, x3] h
        )
      )
    )
  )
noncomputable def b_X2_poll_8 (rec : Rk) (x1 x3 : Int) (h : Hp) : Option (Int × Hp) :=
  ck (-2147483648 ≤ x3 + 1 ∧ x3 + 1 < 2147483648) <|
  rec 7 [x1, x3 + 1] h
noncomputable def g_X2_poll (n : Nat) : Rk := Nat.rec (motive := fun _ => Rk) (fun _ _ _ => none) (fun _ rec k l h => if k = 0 then b_X2_poll_0 rec (l.getD 0 0) h else if k = 1 then b_X2_poll_1 rec (l.getD 0 0) (l.getD 1 0) h else if k = 2 then b_X2_poll_2 rec (l.getD 0 0) (l.getD 1 0) h else if k = 3 then b_X2_poll_3 rec (l.getD 0 0) (l.getD 1 0) (l.getD 2 0) (l.getD 3 0) h else if k = 4 then b_X2_poll_4 rec (l.getD 0 0) (l.getD 1 0) (l.getD 2 0) h else if k = 5 then b_X2_poll_5 rec (l.getD 0 0) (l.getD 1 0) (l.getD 2 0) h else if k = 6 then b_X2_poll_6 rec (l.getD 0 0) h else if k = 7 then b_X2_poll_7 rec (l.getD 0 0) (l.getD 1 0) h else if k = 8 then b_X2_poll_8 rec (l.getD 0 0) (l.getD 1 0) h else none) n
noncomputable def f_X2_poll (x1 : Int) (h : Hp) : Option (Int × Hp) := g_X2_poll FU 0 [x1] h
set_option maxHeartbeats 4000000 in
set_option maxRecDepth 100000 in
theorem t_X2_poll_0 (E : xE) (d : Nat) (rec : Rk) (r : Int × Hp) (hr_2 : ∀ (x1 x2 : Int) (h : Hp), Lay h → rec 1 [x1, x2] h = some r → X E mX2_poll (d + 5) (0, 0) (0, 0) 2 [some (xr 2 0), some (xr 10 x1), some (xi x2), none] [] h (PoV r)) (x1 : Int) (h : Hp) (hL : Lay h) (hF : b_X2_poll_0 rec x1 h = some r) : X E mX2_poll (d + 5) (0, 0) (0, 0) 0 [some (xr 2 0), some (xr 10 x1), none, none] [] h (PoV r) := by
  unfold b_X2_poll_0 at hF
  refine x_iconst (n := 0) (b := 1) dX2_poll_0 (by decide) rfl ?_
  refine x_istore_n (i := 2) (b := 2) (ls2 := [some (xr 2 0), some (xr 10 x1), some (xi 0), none]) dX2_poll_1 rfl (Nat.le_of_ble_eq_true rfl) rfl rfl ?_
  exact x_dp (ls2 := [some (xr 2 0), some (xr 10 x1), some (xi 0), none]) ⟨rfl, rfl, rfl, trivial⟩ (hr_2 x1 0 h hL hF)
set_option maxHeartbeats 4000000 in
set_option maxRecDepth 100000 in
theorem t_X2_poll_1 (E : xE) (d : Nat) (rec : Rk) (r : Int × Hp) (hr_2 : ∀ (x1 x2 : Int) (h : Hp), Lay h → rec 1 [x1, x2] h = some r → X E mX2_poll (d + 5) (0, 0) (0, 0) 2 [some (xr 2 0), some (xr 10 x1), some (xi x2), none] [] h (PoV r)) (hr_22 : ∀ (x1 x2 : Int) (h : Hp), Lay h → rec 2 [x1, x2] h = some r → X E mX2_poll (d + 5) (0, 0) (0, 0) 22 [some (xr 2 0), some (xr 10 x1), some (xi x2), none] [] h (PoV r)) (x1 x2 : Int) (h : Hp) (hL : Lay h) (hF : b_X2_poll_1 rec x1 x2 h = some r) : X E mX2_poll (d + 5) (0, 0) (0, 0) 2 [some (xr 2 0), some (xr 10 x1), some (xi x2), none] [] h (PoV r) := by
  unfold b_X2_poll_1 at hF
  refine x_iload_n (i := 2) (b := 3) dX2_poll_2 rfl rfl rfl ?_
  refine x_iconst (n := 4) (b := 4) dX2_poll_3 (by decide) rfl ?_
  refine x_icmp_ge (tgt := 20) (b := 7) dX2_poll_4 (by decide) rfl (fun hc => ?_) (fun hc => ?_)
  · replace hF := br_T hc hF
    refine x_iconst (n := 0) (b := 21) dX2_poll_20 (by decide) rfl ?_
    refine x_istore_n (i := 2) (b := 22) (ls2 := [some (xr 2 0), some (xr 10 x1), some (xi 0), none]) dX2_poll_21 rfl (Nat.le_of_ble_eq_true rfl) rfl rfl ?_
    exact x_dp (ls2 := [some (xr 2 0), some (xr 10 x1), some (xi 0), none]) ⟨rfl, rfl, rfl, trivial⟩ (hr_22 x1 0 h hL hF)
  · replace hF := br_F hc hF
    refine x_aload_n (i := 0) (b := 8) dX2_poll_7 rfl rfl rfl ?_
    refine x_getL (j := 0) (t := (31, 0, true)) (b := 11) fk_X2_25 dX2_poll_8 rfl hL rfl rfl rfl ?_
    refine x_iload_n (i := 2) (b := 12) dX2_poll_11 rfl rfl rfl ?_
    refine x_iconst (n := 0) (b := 13) dX2_poll_12 (by decide) rfl ?_
    obtain ⟨hs, hF⟩ := ck_e hF
    have hs1 := hs
    refine x_iast (b := 14) ak_31 dX2_poll_13 hs1 rfl ?_
    obtain ⟨h1, e_h1, hF⟩ := lt_e hF
    refine x_hp (h2 := h1) e_h1 ?_
    replace hL : Lay h1 := by rw [← e_h1]; exact hL
    obtain ⟨hs, hF⟩ := ck_e hF
    refine x_iinc (i := 2) (b := 17) (ls2 := [some (xr 2 0), some (xr 10 x1), some (xi (x2 + 1)), none]) dX2_poll_14 rfl (Nat.le_of_ble_eq_true rfl) hs rfl rfl ?_
    refine x_goto (tgt := 2) dX2_poll_17 (by decide) ?_
    exact x_dp (ls2 := [some (xr 2 0), some (xr 10 x1), some (xi (x2 + 1)), none]) ⟨rfl, rfl, rfl, trivial⟩ (hr_2 x1 (x2 + 1) h1 hL hF)
set_option maxHeartbeats 4000000 in
set_option maxRecDepth 100000 in
theorem t_X2_poll_2 (E : xE) (d : Nat) (rec : Rk) (r : Int × Hp) (hr_63 : ∀ (x1 x2 y0 y1 : Int) (h : Hp), Lay h → rec 3 [x1, x2, y0, y1] h = some r → X E mX2_poll (d + 5) (0, 0) (0, 0) 63 [some (xr 2 0), some (xr 10 x1), some (xi x2), none] [xi y0, xi y1, xr 30 0] h (PoV r)) (hr_96 : ∀ (x1 x2 x3 : Int) (h : Hp), Lay h → rec 4 [x1, x2, x3] h = some r → X E mX2_poll (d + 5) (0, 0) (0, 0) 96 [some (xr 2 0), some (xr 10 x1), some (xr 9 x2), some (xi x3)] [] h (PoV r)) (x1 x2 : Int) (h : Hp) (hL : Lay h) (hF : b_X2_poll_2 rec x1 x2 h = some r) : X E mX2_poll (d + 5) (0, 0) (0, 0) 22 [some (xr 2 0), some (xr 10 x1), some (xi x2), none] [] h (PoV r) := by
  unfold b_X2_poll_2 at hF
  refine x_iload_n (i := 2) (b := 23) dX2_poll_22 rfl rfl rfl ?_
  refine x_aload_n (i := 0) (b := 24) dX2_poll_23 rfl rfl rfl ?_
  obtain ⟨j1, e_j1, hF⟩ := rf_e hF
  refine x_getR (v := some (0, j1)) (b := 27) fk_X2_43 dX2_poll_24 rfl e_j1 rfl ?_
  obtain ⟨v2, h3, hq, hF⟩ := bd_e hF
  refine x_callV (as := []) (rest := [xi x2]) (b := 30) (c_X0_size (d + 3) j1 h _ hL hq) dX2_poll_27 cw_X2_79 ⟨_, _, rfl, Nat.le_of_ble_eq_true rfl⟩ rfl rfl (Nat.le_of_ble_eq_true rfl) ⟨Nat.le_refl _, Nat.le_refl _⟩ rfl (fun rv hh hp _ => ?_)
  obtain ⟨rfl, rfl, hL⟩ := hp
  refine x_icmp_ge (tgt := 86) (b := 33) dX2_poll_30 (by decide) rfl (fun hc => ?_) (fun hc => ?_)
  · replace hF := br_T hc hF
    refine x_aload_n (i := 0) (b := 87) dX2_poll_86 rfl rfl rfl ?_
    obtain ⟨j4, e_j4, hF⟩ := rf_e hF
    refine x_getR (v := some (0, j4)) (b := 90) fk_X2_43 dX2_poll_87 rfl e_j4 rfl ?_
    refine x_getL (j := j4) (t := (9, 0, true)) (b := 93) fk_X2_124 dX2_poll_90 rfl hL rfl rfl rfl ?_
    refine x_astore_n (i := 2) (b := 94) (ls2 := [some (xr 2 0), some (xr 10 x1), some (xr 9 j4), none]) dX2_poll_93 rfl (Nat.le_of_ble_eq_true rfl) rfl rfl ?_
    refine x_iconst (n := 0) (b := 95) dX2_poll_94 (by decide) rfl ?_
    refine x_istore_n (i := 3) (b := 96) (ls2 := [some (xr 2 0), some (xr 10 x1), some (xr 9 j4), some (xi 0)]) dX2_poll_95 rfl (Nat.le_of_ble_eq_true rfl) rfl rfl ?_
    exact x_dp (ls2 := [some (xr 2 0), some (xr 10 x1), some (xr 9 j4), some (xi 0)]) ⟨rfl, rfl, rfl, rfl, trivial⟩ (hr_96 x1 j4 0 h3 hL hF)
  · replace hF := br_F hc hF
    refine x_aload_n (i := 0) (b := 34) dX2_poll_33 rfl rfl rfl ?_
    refine x_getL (j := 0) (t := (30, 0, true)) (b := 37) fk_X2_22 dX2_poll_34 rfl hL rfl rfl rfl ?_
    refine x_iload_n (i := 2) (b := 38) dX2_poll_37 rfl rfl rfl ?_
    refine x_aload_n (i := 0) (b := 39) dX2_poll_38 rfl rfl rfl ?_
    refine x_getL (j := 0) (t := (29, 0, true)) (b := 42) fk_X2_18 dX2_poll_39 rfl hL rfl rfl rfl ?_
    refine x_iload_n (i := 2) (b := 43) dX2_poll_42 rfl rfl rfl ?_
    obtain ⟨hs, hF⟩ := ck_e hF
    refine x_iald (v := gI h3 29 0 x2) (b := 44) ak_29 dX2_poll_43 hs rfl rfl ?_
    refine x_if_le (tgt := 62) (b := 47) dX2_poll_44 (by decide) rfl (fun hc => ?_) (fun hc => ?_)
    · replace hF := br_T hc hF
      refine x_iconst (n := (-1)) (b := 63) dX2_poll_62 (by decide) rfl ?_
      exact x_dp (ls2 := [some (xr 2 0), some (xr 10 x1), some (xi x2), none]) ⟨rfl, rfl, rfl, trivial⟩ (hr_63 x1 x2 (-1) x2 h3 hL hF)
    · replace hF := br_F hc hF
      refine x_aload_n (i := 0) (b := 48) dX2_poll_47 rfl rfl rfl ?_
      refine x_aload_n (i := 1) (b := 49) dX2_poll_48 rfl rfl rfl ?_
      refine x_iload_n (i := 2) (b := 50) dX2_poll_49 rfl rfl rfl ?_
      refine x_aload_n (i := 0) (b := 51) dX2_poll_50 rfl rfl rfl ?_
      refine x_getL (j := 0) (t := (29, 0, true)) (b := 54) fk_X2_18 dX2_poll_51 rfl hL rfl rfl rfl ?_
      refine x_iload_n (i := 2) (b := 55) dX2_poll_54 rfl rfl rfl ?_
      obtain ⟨hs, hF⟩ := ck_e hF
      refine x_iald (v := gI h3 29 0 x2) (b := 56) ak_29 dX2_poll_55 hs rfl rfl ?_
      obtain ⟨v5, h6, hq, hF⟩ := bd_e hF
      refine x_callV (as := [xr 10 x1, xi x2, xi (gI h3 29 0 x2)]) (rest := [xi x2, xr 30 0]) (b := 59) (c_X2_wishOf d x1 x2 (gI h3 29 0 x2) h3 _ hL hq) dX2_poll_56 cw_X2_170 ⟨_, _, rfl, Nat.le_of_ble_eq_true rfl⟩ rfl rfl (Nat.le_of_ble_eq_true rfl) ⟨Nat.le_refl _, Nat.le_refl _⟩ rfl (fun rv hh hp _ => ?_)
      obtain ⟨rfl, rfl, hL⟩ := hp
      refine x_goto (tgt := 63) dX2_poll_59 (by decide) ?_
      exact x_dp (ls2 := [some (xr 2 0), some (xr 10 x1), some (xi x2), none]) ⟨rfl, rfl, rfl, trivial⟩ (hr_63 x1 x2 v5 x2 h6 hL hF)
set_option maxHeartbeats 4000000 in
set_option maxRecDepth 100000 in
theorem t_X2_poll_3 (E : xE) (d : Nat) (rec : Rk) (r : Int × Hp) (hr_22 : ∀ (x1 x2 : Int) (h : Hp), Lay h → rec 2 [x1, x2] h = some r → X E mX2_poll (d + 5) (0, 0) (0, 0) 22 [some (xr 2 0), some (xr 10 x1), some (xi x2), none] [] h (PoV r)) (x1 x2 y0 y1 : Int) (h : Hp) (hL : Lay h) (hF : b_X2_poll_3 rec x1 x2 y0 y1 h = some r) : X E mX2_poll (d + 5) (0, 0) (0, 0) 63 [some (xr 2 0), some (xr 10 x1), some (xi x2), none] [xi y0, xi y1, xr 30 0] h (PoV r) := by
  unfold b_X2_poll_3 at hF
  obtain ⟨hs, hF⟩ := ck_e hF
  have hs1 := hs
  refine x_iast (b := 64) ak_30 dX2_poll_63 hs1 rfl ?_
  obtain ⟨h1, e_h1, hF⟩ := lt_e hF
  refine x_hp (h2 := h1) e_h1 ?_
  replace hL : Lay h1 := by rw [← e_h1]; exact hL
  refine x_aload_n (i := 0) (b := 65) dX2_poll_64 rfl rfl rfl ?_
  refine x_aload_n (i := 0) (b := 66) dX2_poll_65 rfl rfl rfl ?_
  refine x_getL (j := 0) (t := (30, 0, true)) (b := 69) fk_X2_22 dX2_poll_66 rfl hL rfl rfl rfl ?_
  refine x_iload_n (i := 2) (b := 70) dX2_poll_69 rfl rfl rfl ?_
  obtain ⟨hs, hF⟩ := ck_e hF
  refine x_iald (v := gI h1 30 0 x2) (b := 71) ak_30 dX2_poll_70 hs rfl rfl ?_
  refine x_aload_n (i := 0) (b := 72) dX2_poll_71 rfl rfl rfl ?_
  refine x_getL (j := 0) (t := (29, 0, true)) (b := 75) fk_X2_18 dX2_poll_72 rfl hL rfl rfl rfl ?_
  refine x_iload_n (i := 2) (b := 76) dX2_poll_75 rfl rfl rfl ?_
  obtain ⟨hs, hF⟩ := ck_e hF
  refine x_iald (v := gI h1 29 0 x2) (b := 77) ak_29 dX2_poll_76 hs rfl rfl ?_
  obtain ⟨v2, h3, hq, hF⟩ := bd_e hF
  refine x_callV (as := [xi (gI h1 30 0 x2), xi (gI h1 29 0 x2)]) (rest := []) (b := 80) (c_X2_give (d + 2) (gI h1 30 0 x2) (gI h1 29 0 x2) h1 _ hL hq) dX2_poll_77 cw_X2_174 ⟨_, _, rfl, Nat.le_of_ble_eq_true rfl⟩ rfl rfl (Nat.le_of_ble_eq_true rfl) ⟨Nat.le_refl _, Nat.le_refl _⟩ rfl (fun rv hh hp _ => ?_)
  obtain ⟨rfl, rfl, hL⟩ := hp
  obtain ⟨hs, hF⟩ := ck_e hF
  refine x_iinc (i := 2) (b := 83) (ls2 := [some (xr 2 0), some (xr 10 x1), some (xi (x2 + 1)), none]) dX2_poll_80 rfl (Nat.le_of_ble_eq_true rfl) hs rfl rfl ?_
  refine x_goto (tgt := 22) dX2_poll_83 (by decide) ?_
  exact x_dp (ls2 := [some (xr 2 0), some (xr 10 x1), some (xi (x2 + 1)), none]) ⟨rfl, rfl, rfl, trivial⟩ (hr_22 x1 (x2 + 1) h3 hL hF)
set_option maxHeartbeats 4000000 in
set_option maxRecDepth 100000 in
theorem t_X2_poll_4 (E : xE) (d : Nat) (rec : Rk) (r : Int × Hp) (hr_151 : ∀ (x1 x2 x3 : Int) (h : Hp), Lay h → rec 5 [x1, x2, x3] h = some r → X E mX2_poll (d + 5) (0, 0) (0, 0) 151 [some (xr 2 0), some (xr 10 x1), some (xr 9 x2), some (xi x3)] [] h (PoV r)) (hr_157 : ∀ (x1 : Int) (h : Hp), Lay h → rec 6 [x1] h = some r → X E mX2_poll (d + 5) (0, 0) (0, 0) 157 [some (xr 2 0), some (xr 10 x1), none, none] [] h (PoV r)) (x1 x2 x3 : Int) (h : Hp) (hL : Lay h) (hF : b_X2_poll_4 rec x1 x2 x3 h = some r) : X E mX2_poll (d + 5) (0, 0) (0, 0) 96 [some (xr 2 0), some (xr 10 x1), some (xr 9 x2), some (xi x3)] [] h (PoV r) := by
  unfold b_X2_poll_4 at hF
  refine x_aload_n (i := 0) (b := 97) dX2_poll_96 rfl rfl rfl ?_
  refine x_getI (v := gI h 2 0 1) (b := 100) fk_X2_9 dX2_poll_97 (by decide) rfl rfl ?_
  refine x_iconst (n := 1) (b := 101) dX2_poll_100 (by decide) rfl ?_
  refine x_icmp_eq (tgt := 157) (b := 104) dX2_poll_101 (by decide) rfl (fun hc => ?_) (fun hc => ?_)
  · replace hF := br_T hc hF
    exact x_dp (ls2 := [some (xr 2 0), some (xr 10 x1), none, none]) ⟨rfl, rfl, trivial⟩ (hr_157 x1 h hL hF)
  · replace hF := br_F hc hF
    refine x_iload_n (i := 3) (b := 105) dX2_poll_104 rfl rfl rfl ?_
    refine x_aload_n (i := 2) (b := 106) dX2_poll_105 rfl rfl rfl ?_
    refine x_getI (v := gI h 9 x2 6) (b := 109) fk_X2_178 dX2_poll_106 (by decide) rfl rfl ?_
    refine x_icmp_ge (tgt := 157) (b := 112) dX2_poll_109 (by decide) rfl (fun hc => ?_) (fun hc => ?_)
    · replace hF := br_T hc hF
      exact x_dp (ls2 := [some (xr 2 0), some (xr 10 x1), none, none]) ⟨rfl, rfl, trivial⟩ (hr_157 x1 h hL hF)
    · replace hF := br_F hc hF
      refine x_iload_n (i := 3) (b := 113) dX2_poll_112 rfl rfl rfl ?_
      refine x_iconst (n := 3) (b := 114) dX2_poll_113 (by decide) rfl ?_
      refine x_icmp_ge (tgt := 157) (b := 117) dX2_poll_114 (by decide) rfl (fun hc => ?_) (fun hc => ?_)
      · replace hF := br_T hc hF
        exact x_dp (ls2 := [some (xr 2 0), some (xr 10 x1), none, none]) ⟨rfl, rfl, trivial⟩ (hr_157 x1 h hL hF)
      · replace hF := br_F hc hF
        refine x_aload_n (i := 2) (b := 118) dX2_poll_117 rfl rfl rfl ?_
        refine x_iload_n (i := 3) (b := 119) dX2_poll_118 rfl rfl rfl ?_
        refine x_aload_n (i := 1) (b := 120) dX2_poll_119 rfl rfl rfl ?_
        refine x_getI (v := gI h 10 x1 1) (b := 123) fk_X2_157 dX2_poll_120 (by decide) rfl rfl ?_
        obtain ⟨v1, h2, hq, hF⟩ := bd_e hF
        refine x_callV (as := [xi x3, xi (gI h 10 x1 1)]) (rest := []) (b := 126) (c_X9_fromIsle (d + 3) x2 x3 (gI h 10 x1 1) h _ hL hq) dX2_poll_123 cw_X2_181 ⟨_, _, rfl, Nat.le_of_ble_eq_true rfl⟩ rfl rfl (Nat.le_of_ble_eq_true rfl) ⟨Nat.le_refl _, Nat.le_refl _⟩ rfl (fun rv hh hp _ => ?_)
        obtain ⟨rfl, rfl, hL⟩ := hp
        refine x_aload_n (i := 2) (b := 127) dX2_poll_126 rfl rfl rfl ?_
        refine x_getL (j := x2) (t := (53, 0, true)) (b := 130) fk_X2_184 dX2_poll_127 rfl hL rfl rfl rfl ?_
        refine x_iload_n (i := 3) (b := 131) dX2_poll_130 rfl rfl rfl ?_
        obtain ⟨hs, hF⟩ := ck_e hF
        refine x_iald (v := gI h2 53 x2 x3) (b := 132) ak_53 dX2_poll_131 hs rfl rfl ?_
        refine x_icmp_gt (tgt := 151) (b := 135) dX2_poll_132 (by decide) rfl (fun hc => ?_) (fun hc => ?_)
        · replace hF := br_T hc hF
          exact x_dp (ls2 := [some (xr 2 0), some (xr 10 x1), some (xr 9 x2), some (xi x3)]) ⟨rfl, rfl, rfl, rfl, trivial⟩ (hr_151 x1 x2 x3 h2 hL hF)
        · replace hF := br_F hc hF
          refine x_aload_n (i := 0) (b := 136) dX2_poll_135 rfl rfl rfl ?_
          refine x_aload_n (i := 0) (b := 137) dX2_poll_136 rfl rfl rfl ?_
          refine x_aload_n (i := 1) (b := 138) dX2_poll_137 rfl rfl rfl ?_
          refine x_iload_n (i := 3) (b := 139) dX2_poll_138 rfl rfl rfl ?_
          obtain ⟨v3, h4, hq, hF⟩ := bd_e hF
          refine x_callV (as := [xr 10 x1, xi x3]) (rest := [xr 2 0]) (b := 142) (c_X2_bribe (d + 1) x1 x3 h2 _ hL hq) dX2_poll_139 cw_X2_187 ⟨_, _, rfl, Nat.le_of_ble_eq_true rfl⟩ rfl rfl (Nat.le_of_ble_eq_true rfl) ⟨Nat.le_refl _, Nat.le_refl _⟩ rfl (fun rv hh hp _ => ?_)
          obtain ⟨rfl, rfl, hL⟩ := hp
          refine x_aload_n (i := 2) (b := 143) dX2_poll_142 rfl rfl rfl ?_
          refine x_getL (j := x2) (t := (54, 0, true)) (b := 146) fk_X2_190 dX2_poll_143 rfl hL rfl rfl rfl ?_
          refine x_iload_n (i := 3) (b := 147) dX2_poll_146 rfl rfl rfl ?_
          obtain ⟨hs, hF⟩ := ck_e hF
          refine x_iald (v := gI h4 54 x2 x3) (b := 148) ak_54 dX2_poll_147 hs rfl rfl ?_
          obtain ⟨v5, h6, hq, hF⟩ := bd_e hF
          refine x_callV (as := [xi v3, xi (gI h4 54 x2 x3)]) (rest := []) (b := 151) (c_X2_give (d + 2) v3 (gI h4 54 x2 x3) h4 _ hL hq) dX2_poll_148 cw_X2_174 ⟨_, _, rfl, Nat.le_of_ble_eq_true rfl⟩ rfl rfl (Nat.le_of_ble_eq_true rfl) ⟨Nat.le_refl _, Nat.le_refl _⟩ rfl (fun rv hh hp _ => ?_)
          obtain ⟨rfl, rfl, hL⟩ := hp
          exact x_dp (ls2 := [some (xr 2 0), some (xr 10 x1), some (xr 9 x2), some (xi x3)]) ⟨rfl, rfl, rfl, rfl, trivial⟩ (hr_151 x1 x2 x3 h6 hL hF)
set_option maxHeartbeats 4000000 in
set_option maxRecDepth 100000 in
theorem t_X2_poll_5 (E : xE) (d : Nat) (rec : Rk) (r : Int × Hp) (hr_96 : ∀ (x1 x2 x3 : Int) (h : Hp), Lay h → rec 4 [x1, x2, x3] h = some r → X E mX2_poll (d + 5) (0, 0) (0, 0) 96 [some (xr 2 0), some (xr 10 x1), some (xr 9 x2), some (xi x3)] [] h (PoV r)) (x1 x2 x3 : Int) (h : Hp) (hL : Lay h) (hF : b_X2_poll_5 rec x1 x2 x3 h = some r) : X E mX2_poll (d + 5) (0, 0) (0, 0) 151 [some (xr 2 0), some (xr 10 x1), some (xr 9 x2), some (xi x3)] [] h (PoV r) := by
  unfold b_X2_poll_5 at hF
  obtain ⟨hs, hF⟩ := ck_e hF
  refine x_iinc (i := 3) (b := 154) (ls2 := [some (xr 2 0), some (xr 10 x1), some (xr 9 x2), some (xi (x3 + 1))]) dX2_poll_151 rfl (Nat.le_of_ble_eq_true rfl) hs rfl rfl ?_
  refine x_goto (tgt := 96) dX2_poll_154 (by decide) ?_
  exact x_dp (ls2 := [some (xr 2 0), some (xr 10 x1), some (xr 9 x2), some (xi (x3 + 1))]) ⟨rfl, rfl, rfl, rfl, trivial⟩ (hr_96 x1 x2 (x3 + 1) h hL hF)
set_option maxHeartbeats 4000000 in
set_option maxRecDepth 100000 in
theorem t_X2_poll_6 (E : xE) (d : Nat) (rec : Rk) (r : Int × Hp) (hr_159 : ∀ (x1 x3 : Int) (h : Hp), Lay h → rec 7 [x1, x3] h = some r → X E mX2_poll (d + 5) (0, 0) (0, 0) 159 [some (xr 2 0), some (xr 10 x1), none, some (xi x3)] [] h (PoV r)) (x1 : Int) (h : Hp) (hL : Lay h) (hF : b_X2_poll_6 rec x1 h = some r) : X E mX2_poll (d + 5) (0, 0) (0, 0) 157 [some (xr 2 0), some (xr 10 x1), none, none] [] h (PoV r) := by
  unfold b_X2_poll_6 at hF
  refine x_iconst (n := 0) (b := 158) dX2_poll_157 (by decide) rfl ?_
  refine x_istore_n (i := 3) (b := 159) (ls2 := [some (xr 2 0), some (xr 10 x1), none, some (xi 0)]) dX2_poll_158 rfl (Nat.le_of_ble_eq_true rfl) rfl rfl ?_
  exact x_dp (ls2 := [some (xr 2 0), some (xr 10 x1), none, some (xi 0)]) ⟨rfl, rfl, rfl, trivial⟩ (hr_159 x1 0 h hL hF)
set_option maxHeartbeats 4000000 in
set_option maxRecDepth 100000 in
theorem t_X2_poll_7 (E : xE) (d : Nat) (rec : Rk) (r : Int × Hp) (hr_221 : ∀ (x1 x3 : Int) (h : Hp), Lay h → rec 8 [x1, x3] h = some r → X E mX2_poll (d + 5) (0, 0) (0, 0) 221 [some (xr 2 0), some (xr 10 x1), none, some (xi x3)] [] h (PoV r)) (x1 x3 : Int) (h : Hp) (hL : Lay h) (hF : b_X2_poll_7 rec x1 x3 h = some r) : X E mX2_poll (d + 5) (0, 0) (0, 0) 159 [some (xr 2 0), some (xr 10 x1), none, some (xi x3)] [] h (PoV r) := by
  unfold b_X2_poll_7 at hF
  refine x_aload_n (i := 0) (b := 160) dX2_poll_159 rfl rfl rfl ?_
  refine x_getI (v := gI h 2 0 1) (b := 163) fk_X2_9 dX2_poll_160 (by decide) rfl rfl ?_
  refine x_iconst (n := 2) (b := 164) dX2_poll_163 (by decide) rfl ?_
  refine x_icmp_eq (tgt := 227) (b := 167) dX2_poll_164 (by decide) rfl (fun hc => ?_) (fun hc => ?_)
  · replace hF := br_T hc hF
    refine x_return dX2_poll_227 rfl ⟨Nat.le_refl _, Nat.le_refl _⟩ ?_
    cases hF
    exact ⟨rfl, rfl, hL⟩
  · replace hF := br_F hc hF
    refine x_iload_n (i := 3) (b := 168) dX2_poll_167 rfl rfl rfl ?_
    refine x_aload_n (i := 0) (b := 169) dX2_poll_168 rfl rfl rfl ?_
    obtain ⟨j1, e_j1, hF⟩ := rf_e hF
    refine x_getR (v := some (0, j1)) (b := 172) fk_X2_43 dX2_poll_169 rfl e_j1 rfl ?_
    refine x_getI (v := gI h 0 j1 10) (b := 175) fk_X2_193 dX2_poll_172 (by decide) rfl rfl ?_
    refine x_icmp_ge (tgt := 227) (b := 178) dX2_poll_175 (by decide) rfl (fun hc => ?_) (fun hc => ?_)
    · replace hF := br_T hc hF
      refine x_return dX2_poll_227 rfl ⟨Nat.le_refl _, Nat.le_refl _⟩ ?_
      cases hF
      exact ⟨rfl, rfl, hL⟩
    · replace hF := br_F hc hF
      refine x_iload_n (i := 3) (b := 179) dX2_poll_178 rfl rfl rfl ?_
      refine x_iconst (n := 4) (b := 180) dX2_poll_179 (by decide) rfl ?_
      refine x_icmp_ge (tgt := 227) (b := 183) dX2_poll_180 (by decide) rfl (fun hc => ?_) (fun hc => ?_)
      · replace hF := br_T hc hF
        refine x_return dX2_poll_227 rfl ⟨Nat.le_refl _, Nat.le_refl _⟩ ?_
        cases hF
        exact ⟨rfl, rfl, hL⟩
      · replace hF := br_F hc hF
        refine x_aload_n (i := 0) (b := 184) dX2_poll_183 rfl rfl rfl ?_
        obtain ⟨j2, e_j2, hF⟩ := rf_e hF
        refine x_getR (v := some (0, j2)) (b := 187) fk_X2_43 dX2_poll_184 rfl e_j2 rfl ?_
        refine x_getL (j := j2) (t := (22, 0, true)) (b := 190) fk_X2_196 dX2_poll_187 rfl hL rfl rfl rfl ?_
        refine x_iload_n (i := 3) (b := 191) dX2_poll_190 rfl rfl rfl ?_
        obtain ⟨hs, hF⟩ := ck_e hF
        refine x_iald (v := gI h 22 j2 x3) (b := 192) ak_22 dX2_poll_191 hs rfl rfl ?_
        refine x_aload_n (i := 1) (b := 193) dX2_poll_192 rfl rfl rfl ?_
        refine x_getI (v := gI h 10 x1 0) (b := 196) fk_X2_73 dX2_poll_193 (by decide) rfl rfl ?_
        refine x_icmp_ne (tgt := 221) (b := 199) dX2_poll_196 (by decide) rfl (fun hc => ?_) (fun hc => ?_)
        · replace hF := br_F hc hF
          exact x_dp (ls2 := [some (xr 2 0), some (xr 10 x1), none, some (xi x3)]) ⟨rfl, rfl, rfl, trivial⟩ (hr_221 x1 x3 h hL hF)
        · replace hF := br_T hc hF
          refine x_aload_n (i := 0) (b := 200) dX2_poll_199 rfl rfl rfl ?_
          refine x_aload_n (i := 0) (b := 201) dX2_poll_200 rfl rfl rfl ?_
          obtain ⟨j3, e_j3, hF⟩ := rf_e hF
          refine x_getR (v := some (0, j3)) (b := 204) fk_X2_43 dX2_poll_201 rfl e_j3 rfl ?_
          refine x_getL (j := j3) (t := (23, 0, true)) (b := 207) fk_X2_199 dX2_poll_204 rfl hL rfl rfl rfl ?_
          refine x_iload_n (i := 3) (b := 208) dX2_poll_207 rfl rfl rfl ?_
          obtain ⟨hs, hF⟩ := ck_e hF
          refine x_iald (v := gI h 23 j3 x3) (b := 209) ak_23 dX2_poll_208 hs rfl rfl ?_
          refine x_aload_n (i := 0) (b := 210) dX2_poll_209 rfl rfl rfl ?_
          obtain ⟨j4, e_j4, hF⟩ := rf_e hF
          refine x_getR (v := some (0, j4)) (b := 213) fk_X2_43 dX2_poll_210 rfl e_j4 rfl ?_
          refine x_getL (j := j4) (t := (24, 0, true)) (b := 216) fk_X2_202 dX2_poll_213 rfl hL rfl rfl rfl ?_
          refine x_iload_n (i := 3) (b := 217) dX2_poll_216 rfl rfl rfl ?_
          obtain ⟨hs, hF⟩ := ck_e hF
          refine x_iald (v := gI h 24 j4 x3) (b := 218) ak_24 dX2_poll_217 hs rfl rfl ?_
          obtain ⟨v5, h6, hq, hF⟩ := bd_e hF
          refine x_callV (as := [xi (gI h 23 j3 x3), xi (gI h 24 j4 x3)]) (rest := []) (b := 221) (c_X2_give (d + 2) (gI h 23 j3 x3) (gI h 24 j4 x3) h _ hL hq) dX2_poll_218 cw_X2_174 ⟨_, _, rfl, Nat.le_of_ble_eq_true rfl⟩ rfl rfl (Nat.le_of_ble_eq_true rfl) ⟨Nat.le_refl _, Nat.le_refl _⟩ rfl (fun rv hh hp _ => ?_)
          obtain ⟨rfl, rfl, hL⟩ := hp
          exact x_dp (ls2 := [some (xr 2 0), some (xr 10 x1), none, some (xi x3)]) ⟨rfl, rfl, rfl, trivial⟩ (hr_221 x1 x3 h6 hL hF)
set_option maxHeartbeats 4000000 in
set_option maxRecDepth 100000 in
theorem t_X2_poll_8 (E : xE) (d : Nat) (rec : Rk) (r : Int × Hp) (hr_159 : ∀ (x1 x3 : Int) (h : Hp), Lay h → rec 7 [x1, x3] h = some r → X E mX2_poll (d + 5) (0, 0) (0, 0) 159 [some (xr 2 0), some (xr 10 x1), none, some (xi x3)] [] h (PoV r)) (x1 x3 : Int) (h : Hp) (hL : Lay h) (hF : b_X2_poll_8 rec x1 x3 h = some r) : X E mX2_poll (d + 5) (0, 0) (0, 0) 221 [some (xr 2 0), some (xr 10 x1), none, some (xi x3)] [] h (PoV r) := by
  unfold b_X2_poll_8 at hF
  obtain ⟨hs, hF⟩ := ck_e hF
  refine x_iinc (i := 3) (b := 224) (ls2 := [some (xr 2 0), some (xr 10 x1), none, some (xi (x3 + 1))]) dX2_poll_221 rfl (Nat.le_of_ble_eq_true rfl) hs rfl rfl ?_
  refine x_goto (tgt := 159) dX2_poll_224 (by decide) ?_
  exact x_dp (ls2 := [some (xr 2 0), some (xr 10 x1), none, some (xi (x3 + 1))]) ⟨rfl, rfl, rfl, trivial⟩ (hr_159 x1 (x3 + 1) h hL hF)
set_option maxHeartbeats 4000000 in
set_option maxRecDepth 100000 in
theorem u_X2_poll (E : xE) (d : Nat) (r : Int × Hp) : ∀ n : Nat, (∀ (x1 : Int) (h : Hp), Lay h → g_X2_poll n 0 [x1] h = some r → X E mX2_poll (d + 5) (0, 0) (0, 0) 0 [some (xr 2 0), some (xr 10 x1), none, none] [] h (PoV r)) ∧ (∀ (x1 x2 : Int) (h : Hp), Lay h → g_X2_poll n 1 [x1, x2] h = some r → X E mX2_poll (d + 5) (0, 0) (0, 0) 2 [some (xr 2 0), some (xr 10 x1), some (xi x2), none] [] h (PoV r)) ∧ (∀ (x1 x2 : Int) (h : Hp), Lay h → g_X2_poll n 2 [x1, x2] h = some r → X E mX2_poll (d + 5) (0, 0) (0, 0) 22 [some (xr 2 0), some (xr 10 x1), some (xi x2), none] [] h (PoV r)) ∧ (∀ (x1 x2 y0 y1 : Int) (h : Hp), Lay h → g_X2_poll n 3 [x1, x2, y0, y1] h = some r → X E mX2_poll (d + 5) (0, 0) (0, 0) 63 [some (xr 2 0), some (xr 10 x1), some (xi x2), none] [xi y0, xi y1, xr 30 0] h (PoV r)) ∧ (∀ (x1 x2 x3 : Int) (h : Hp), Lay h → g_X2_poll n 4 [x1, x2, x3] h = some r → X E mX2_poll (d + 5) (0, 0) (0, 0) 96 [some (xr 2 0), some (xr 10 x1), some (xr 9 x2), some (xi x3)] [] h (PoV r)) ∧ (∀ (x1 x2 x3 : Int) (h : Hp), Lay h → g_X2_poll n 5 [x1, x2, x3] h = some r → X E mX2_poll (d + 5) (0, 0) (0, 0) 151 [some (xr 2 0), some (xr 10 x1), some (xr 9 x2), some (xi x3)] [] h (PoV r)) ∧ (∀ (x1 : Int) (h : Hp), Lay h → g_X2_poll n 6 [x1] h = some r → X E mX2_poll (d + 5) (0, 0) (0, 0) 157 [some (xr 2 0), some (xr 10 x1), none, none] [] h (PoV r)) ∧ (∀ (x1 x3 : Int) (h : Hp), Lay h → g_X2_poll n 7 [x1, x3] h = some r → X E mX2_poll (d + 5) (0, 0) (0, 0) 159 [some (xr 2 0), some (xr 10 x1), none, some (xi x3)] [] h (PoV r)) ∧ (∀ (x1 x3 : Int) (h : Hp), Lay h → g_X2_poll n 8 [x1, x3] h = some r → X E mX2_poll (d + 5) (0, 0) (0, 0) 221 [some (xr 2 0), some (xr 10 x1), none, some (xi x3)] [] h (PoV r)) := by
  intro n
  induction n with
  | zero => exact ⟨fun _ _ _ hF => no_e (r := r) hF, fun _ _ _ _ hF => no_e (r := r) hF, fun _ _ _ _ hF => no_e (r := r) hF, fun _ _ _ _ _ _ hF => no_e (r := r) hF, fun _ _ _ _ _ hF => no_e (r := r) hF, fun _ _ _ _ _ hF => no_e (r := r) hF, fun _ _ _ hF => no_e (r := r) hF, fun _ _ _ _ hF => no_e (r := r) hF, fun _ _ _ _ hF => no_e (r := r) hF⟩
  | succ n ih => exact ⟨fun x1 h hL hF => t_X2_poll_0 E d (g_X2_poll n) r ih.2.1 x1 h hL hF, fun x1 x2 h hL hF => t_X2_poll_1 E d (g_X2_poll n) r ih.2.1 ih.2.2.1 x1 x2 h hL hF, fun x1 x2 h hL hF => t_X2_poll_2 E d (g_X2_poll n) r ih.2.2.2.1 ih.2.2.2.2.1 x1 x2 h hL hF, fun x1 x2 y0 y1 h hL hF => t_X2_poll_3 E d (g_X2_poll n) r ih.2.2.1 x1 x2 y0 y1 h hL hF, fun x1 x2 x3 h hL hF => t_X2_poll_4 E d (g_X2_poll n) r ih.2.2.2.2.2.1 ih.2.2.2.2.2.2.1 x1 x2 x3 h hL hF, fun x1 x2 x3 h hL hF => t_X2_poll_5 E d (g_X2_poll n) r ih.2.2.2.2.1 x1 x2 x3 h hL hF, fun x1 h hL hF => t_X2_poll_6 E d (g_X2_poll n) r ih.2.2.2.2.2.2.2.1 x1 h hL hF, fun x1 x3 h hL hF => t_X2_poll_7 E d (g_X2_poll n) r ih.2.2.2.2.2.2.2.2 x1 x3 h hL hF, fun x1 x3 h hL hF => t_X2_poll_8 E d (g_X2_poll n) r ih.2.2.2.2.2.2.2.1 x1 x3 h hL hF⟩
theorem c_X2_poll (d : Nat) (x1 : Int) (h : Hp) (r : Int × Hp) (hL : Lay h) (hF : f_X2_poll x1 h = some r) : Sp mX2_poll (d + 5) (0, 0) [xr 2 0, xr 10 x1] h (PoV r) :=
  sp_of (by decide) rfl (Nat.le_of_ble_eq_true rfl) (ls := [some (xr 2 0), some (xr 10 x1), none, none]) rfl (fun E _ => (u_X2_poll E d r FU).1 x1 h hL hF)
theorem dX7_readCell_0 : decode cX7_readCell 0 = .ok (.aload_n 0, 1) := by decide +kernel
theorem dX7_readCell_1 : decode cX7_readCell 1 = .ok (.iconst 0, 1) := by decide +kernel
theorem dX7_readCell_2 : decode cX7_readCell 2 = .ok (.aload_n 0, 1) := by decide +kernel
theorem dX7_readCell_3 : decode cX7_readCell 3 = .ok (.getfield 76, 3) := by decide +kernel
theorem dX7_readCell_6 : decode cX7_readCell 6 = .ok (.getfield 158, 3) := by decide +kernel
theorem dX7_readCell_9 : decode cX7_readCell 9 = .ok (.getfield 162, 3) := by decide +kernel
theorem dX7_readCell_12 : decode cX7_readCell 12 = .ok (.iconst 1, 1) := by decide +kernel
theorem dX7_readCell_13 : decode cX7_readCell 13 = .ok (.isub, 1) := by decide +kernel
theorem dX7_readCell_14 : decode cX7_readCell 14 = .ok (.invokevirtual 167, 3) := by decide +kernel
theorem dX7_readCell_17 : decode cX7_readCell 17 = .ok (.ifCond .ne 5, 3) := by decide +kernel
theorem dX7_readCell_20 : decode cX7_readCell 20 = .ok (.iconst 0, 1) := by decide +kernel
theorem dX7_readCell_21 : decode cX7_readCell 21 = .ok (.ireturn, 1) := by decide +kernel
theorem dX7_readCell_22 : decode cX7_readCell 22 = .ok (.aload_n 0, 1) := by decide +kernel
theorem dX7_readCell_23 : decode cX7_readCell 23 = .ok (.getfield 41, 3) := by decide +kernel
theorem dX7_readCell_26 : decode cX7_readCell 26 = .ok (.istore_n 1, 1) := by decide +kernel
theorem dX7_readCell_27 : decode cX7_readCell 27 = .ok (.aload_n 0, 1) := by decide +kernel
theorem dX7_readCell_28 : decode cX7_readCell 28 = .ok (.iconst 0, 1) := by decide +kernel
theorem dX7_readCell_29 : decode cX7_readCell 29 = .ok (.aload_n 0, 1) := by decide +kernel
theorem dX7_readCell_30 : decode cX7_readCell 30 = .ok (.getfield 76, 3) := by decide +kernel
theorem dX7_readCell_33 : decode cX7_readCell 33 = .ok (.getfield 158, 3) := by decide +kernel
theorem dX7_readCell_36 : decode cX7_readCell 36 = .ok (.getfield 170, 3) := by decide +kernel
theorem dX7_readCell_39 : decode cX7_readCell 39 = .ok (.iconst 1, 1) := by decide +kernel
theorem dX7_readCell_40 : decode cX7_readCell 40 = .ok (.isub, 1) := by decide +kernel
theorem dX7_readCell_41 : decode cX7_readCell 41 = .ok (.invokevirtual 167, 3) := by decide +kernel
theorem dX7_readCell_44 : decode cX7_readCell 44 = .ok (.ifCond .ne 5, 3) := by decide +kernel
theorem dX7_readCell_47 : decode cX7_readCell 47 = .ok (.iconst 0, 1) := by decide +kernel
theorem dX7_readCell_48 : decode cX7_readCell 48 = .ok (.ireturn, 1) := by decide +kernel
theorem dX7_readCell_49 : decode cX7_readCell 49 = .ok (.aload_n 0, 1) := by decide +kernel
theorem dX7_readCell_50 : decode cX7_readCell 50 = .ok (.aload_n 0, 1) := by decide +kernel
theorem dX7_readCell_51 : decode cX7_readCell 51 = .ok (.getfield 41, 3) := by decide +kernel
theorem dX7_readCell_54 : decode cX7_readCell 54 = .ok (.aload_n 0, 1) := by decide +kernel
theorem dX7_readCell_55 : decode cX7_readCell 55 = .ok (.getfield 76, 3) := by decide +kernel
theorem dX7_readCell_58 : decode cX7_readCell 58 = .ok (.getfield 158, 3) := by decide +kernel
theorem dX7_readCell_61 : decode cX7_readCell 61 = .ok (.getfield 162, 3) := by decide +kernel
theorem dX7_readCell_64 : decode cX7_readCell 64 = .ok (.imul, 1) := by decide +kernel
theorem dX7_readCell_65 : decode cX7_readCell 65 = .ok (.iload_n 1, 1) := by decide +kernel
theorem dX7_readCell_66 : decode cX7_readCell 66 = .ok (.iadd, 1) := by decide +kernel
theorem dX7_readCell_67 : decode cX7_readCell 67 = .ok (.putfield 41, 3) := by decide +kernel
theorem dX7_readCell_70 : decode cX7_readCell 70 = .ok (.iconst 1, 1) := by decide +kernel
theorem dX7_readCell_71 : decode cX7_readCell 71 = .ok (.ireturn, 1) := by decide +kernel
noncomputable def b_X7_readCell_0 (rec : Rk) (h : Hp) : Option (Int × Hp) :=
  rf (gR h 7 0 1) 0 fun j1 =>
  ck (-2147483648 ≤ (gI h 9 j1 0) - 1 ∧ (gI h 9 j1 0) - 1 < 2147483648) <|
  bd (f_X7_readNumber 0 ((gI h 9 j1 0) - 1) h) fun v2 h3 =>
  if v2 = 0 then (
    some (0, h3)
  ) else (
    lt (gI h3 7 0 11) fun z4 =>
    rf (gR h3 7 0 1) 0 fun j5 =>
    ck (-2147483648 ≤ (gI h3 9 j5 1) - 1 ∧ (gI h3 9 j5 1) - 1 < 2147483648) <|
    bd (f_X7_readNumber 0 ((gI h3 9 j5 1) - 1) h3) fun v6 h7 =>
    if v6 = 0 then (
      some (0, h7)
    ) else (
      rf (gR h7 7 0 1) 0 fun j8 =>
      ck (-2147483648 ≤ (gI h7 7 0 11) * (gI h7 9 j8 0) ∧ (gI h7 7 0 11) * (gI h7 9 j8 0) < 2147483648) <|
      ck (-2147483648 ≤ ((gI h7 7 0 11) * (gI h7 9 j8 0)) + z4 ∧ ((gI h7 7 0 11) * (gI h7 9 j8 0)) + z4 < 2147483648) <|
      lt (sI h7 7 0 11 (((gI h7 7 0 11) * (gI h7 9 j8 0)) + z4)) fun h9 =>
      some (1, h9)
    )
  )
noncomputable def g_X7_readCell (n : Nat) : Rk := Nat.rec (motive := fun _ => Rk) (fun _ _ _ => none) (fun _ rec k l h => if k = 0 then b_X7_readCell_0 rec  h else none) n
noncomputable def f_X7_readCell (h : Hp) : Option (Int × Hp) := g_X7_readCell FU 0 [] h
set_option maxHeartbeats 4000000 in
set_option maxRecDepth 100000 in
theorem t_X7_readCell_0 (E : xE) (d : Nat) (rec : Rk) (r : Int × Hp) (h : Hp) (hL : Lay h) (hF : b_X7_readCell_0 rec  h = some r) : X E mX7_readCell (d + 3) (0, 0) (0, 0) 0 [some (xr 7 0), none] [] h (PoI r) := by
  unfold b_X7_readCell_0 at hF
  refine x_aload_n (i := 0) (b := 1) dX7_readCell_0 rfl rfl rfl ?_
  refine x_iconst (n := 0) (b := 2) dX7_readCell_1 (by decide) rfl ?_
  refine x_aload_n (i := 0) (b := 3) dX7_readCell_2 rfl rfl rfl ?_
  obtain ⟨j1, e_j1, hF⟩ := rf_e hF
  refine x_getR (v := some (0, j1)) (b := 6) fk_X7_76 dX7_readCell_3 rfl e_j1 rfl ?_
  refine x_getL (j := j1) (t := (9, 0, true)) (b := 9) fk_X7_158 dX7_readCell_6 rfl hL rfl rfl rfl ?_
  refine x_getI (v := gI h 9 j1 0) (b := 12) fk_X7_162 dX7_readCell_9 (by decide) rfl rfl ?_
  refine x_iconst (n := 1) (b := 13) dX7_readCell_12 (by decide) rfl ?_
  obtain ⟨hs, hF⟩ := ck_e hF
  refine x_isub (b := 14) dX7_readCell_13 hs rfl ?_
  obtain ⟨v2, h3, hq, hF⟩ := bd_e hF
  refine x_callV (as := [xi 0, xi ((gI h 9 j1 0) - 1)]) (rest := []) (b := 17) (c_X7_readNumber d 0 ((gI h 9 j1 0) - 1) h _ hL hq) dX7_readCell_14 cw_X7_167 ⟨_, _, rfl, Nat.le_of_ble_eq_true rfl⟩ rfl rfl (Nat.le_of_ble_eq_true rfl) ⟨Nat.le_refl _, Nat.le_refl _⟩ rfl (fun rv hh hp _ => ?_)
  obtain ⟨rfl, rfl, hL⟩ := hp
  refine x_if_ne (tgt := 22) (b := 20) dX7_readCell_17 (by decide) rfl (fun hc => ?_) (fun hc => ?_)
  · replace hF := br_F hc hF
    refine x_aload_n (i := 0) (b := 23) dX7_readCell_22 rfl rfl rfl ?_
    refine x_getI (v := gI h3 7 0 11) (b := 26) fk_X7_41 dX7_readCell_23 (by decide) rfl rfl ?_
    obtain ⟨z4, e_z4, hF⟩ := lt_e hF
    refine x_eq (y := z4) e_z4 ?_
    refine x_istore_n (i := 1) (b := 27) (ls2 := [some (xr 7 0), some (xi z4)]) dX7_readCell_26 rfl (Nat.le_of_ble_eq_true rfl) rfl rfl ?_
    refine x_aload_n (i := 0) (b := 28) dX7_readCell_27 rfl rfl rfl ?_
    refine x_iconst (n := 0) (b := 29) dX7_readCell_28 (by decide) rfl ?_
    refine x_aload_n (i := 0) (b := 30) dX7_readCell_29 rfl rfl rfl ?_
    obtain ⟨j5, e_j5, hF⟩ := rf_e hF
    refine x_getR (v := some (0, j5)) (b := 33) fk_X7_76 dX7_readCell_30 rfl e_j5 rfl ?_
    refine x_getL (j := j5) (t := (9, 0, true)) (b := 36) fk_X7_158 dX7_readCell_33 rfl hL rfl rfl rfl ?_
    refine x_getI (v := gI h3 9 j5 1) (b := 39) fk_X7_170 dX7_readCell_36 (by decide) rfl rfl ?_
    refine x_iconst (n := 1) (b := 40) dX7_readCell_39 (by decide) rfl ?_
    obtain ⟨hs, hF⟩ := ck_e hF
    refine x_isub (b := 41) dX7_readCell_40 hs rfl ?_
    obtain ⟨v6, h7, hq, hF⟩ := bd_e hF
    refine x_callV (as := [xi 0, xi ((gI h3 9 j5 1) - 1)]) (rest := []) (b := 44) (c_X7_readNumber d 0 ((gI h3 9 j5 1) - 1) h3 _ hL hq) dX7_readCell_41 cw_X7_167 ⟨_, _, rfl, Nat.le_of_ble_eq_true rfl⟩ rfl rfl (Nat.le_of_ble_eq_true rfl) ⟨Nat.le_refl _, Nat.le_refl _⟩ rfl (fun rv hh hp _ => ?_)
    obtain ⟨rfl, rfl, hL⟩ := hp
    refine x_if_ne (tgt := 49) (b := 47) dX7_readCell_44 (by decide) rfl (fun hc => ?_) (fun hc => ?_)
    · replace hF := br_F hc hF
      refine x_aload_n (i := 0) (b := 50) dX7_readCell_49 rfl rfl rfl ?_
      refine x_aload_n (i := 0) (b := 51) dX7_readCell_50 rfl rfl rfl ?_
      refine x_getI (v := gI h7 7 0 11) (b := 54) fk_X7_41 dX7_readCell_51 (by decide) rfl rfl ?_
      refine x_aload_n (i := 0) (b := 55) dX7_readCell_54 rfl rfl rfl ?_
      obtain ⟨j8, e_j8, hF⟩ := rf_e hF
      refine x_getR (v := some (0, j8)) (b := 58) fk_X7_76 dX7_readCell_55 rfl e_j8 rfl ?_
      refine x_getL (j := j8) (t := (9, 0, true)) (b := 61) fk_X7_158 dX7_readCell_58 rfl hL rfl rfl rfl ?_
      refine x_getI (v := gI h7 9 j8 0) (b := 64) fk_X7_162 dX7_readCell_61 (by decide) rfl rfl ?_
      obtain ⟨hs, hF⟩ := ck_e hF
      refine x_imul (b := 65) dX7_readCell_64 hs rfl ?_
      refine x_iload_n (i := 1) (b := 66) dX7_readCell_65 rfl rfl rfl ?_
      obtain ⟨hs, hF⟩ := ck_e hF
      refine x_iadd (b := 67) dX7_readCell_66 hs rfl ?_
      refine x_putI (b := 70) fk_X7_41 dX7_readCell_67 rfl rfl 11 rfl ?_
      obtain ⟨h9, e_h9, hF⟩ := lt_e hF
      refine x_hp (h2 := h9) e_h9 ?_
      replace hL : Lay h9 := by rw [← e_h9]; exact hL
      refine x_iconst (n := 1) (b := 71) dX7_readCell_70 (by decide) rfl ?_
      refine x_zreturn dX7_readCell_71 rfl ⟨Nat.le_refl _, Nat.le_refl _⟩ (by decide) ?_
      cases hF
      exact ⟨rfl, rfl, hL⟩
    · replace hF := br_T hc hF
      refine x_iconst (n := 0) (b := 48) dX7_readCell_47 (by decide) rfl ?_
      refine x_zreturn dX7_readCell_48 rfl ⟨Nat.le_refl _, Nat.le_refl _⟩ (by decide) ?_
      cases hF
      exact ⟨rfl, rfl, hL⟩
  · replace hF := br_T hc hF
    refine x_iconst (n := 0) (b := 21) dX7_readCell_20 (by decide) rfl ?_
    refine x_zreturn dX7_readCell_21 rfl ⟨Nat.le_refl _, Nat.le_refl _⟩ (by decide) ?_
    cases hF
    exact ⟨rfl, rfl, hL⟩
set_option maxHeartbeats 4000000 in
set_option maxRecDepth 100000 in
theorem u_X7_readCell (E : xE) (d : Nat) (r : Int × Hp) : ∀ n : Nat, (∀ (h : Hp), Lay h → g_X7_readCell n 0 [] h = some r → X E mX7_readCell (d + 3) (0, 0) (0, 0) 0 [some (xr 7 0), none] [] h (PoI r)) := by
  intro n
  induction n with
  | zero => exact fun _ _ hF => no_e (r := r) hF
  | succ n ih => exact fun h hL hF => t_X7_readCell_0 E d (g_X7_readCell n) r   h hL hF
theorem c_X7_readCell (d : Nat) (h : Hp) (r : Int × Hp) (hL : Lay h) (hF : f_X7_readCell  h = some r) : Sp mX7_readCell (d + 3) (0, 0) [xr 7 0] h (PoI r) :=
  sp_of (by decide) rfl (Nat.le_of_ble_eq_true rfl) (ls := [some (xr 7 0), none]) rfl (fun E _ => (u_X7_readCell E d r FU)  h hL hF)
theorem dX7_readCellOfWater_0 : decode cX7_readCellOfWater 0 = .ok (.aload_n 0, 1) := by decide +kernel
theorem dX7_readCellOfWater_1 : decode cX7_readCellOfWater 1 = .ok (.invokevirtual 173, 3) := by decide +kernel
theorem dX7_readCellOfWater_4 : decode cX7_readCellOfWater 4 = .ok (.ifCond .ne 5, 3) := by decide +kernel
theorem dX7_readCellOfWater_7 : decode cX7_readCellOfWater 7 = .ok (.iconst 0, 1) := by decide +kernel
theorem dX7_readCellOfWater_8 : decode cX7_readCellOfWater 8 = .ok (.ireturn, 1) := by decide +kernel
theorem dX7_readCellOfWater_9 : decode cX7_readCellOfWater 9 = .ok (.aload_n 0, 1) := by decide +kernel
theorem dX7_readCellOfWater_10 : decode cX7_readCellOfWater 10 = .ok (.getfield 76, 3) := by decide +kernel
theorem dX7_readCellOfWater_13 : decode cX7_readCellOfWater 13 = .ok (.getfield 158, 3) := by decide +kernel
theorem dX7_readCellOfWater_16 : decode cX7_readCellOfWater 16 = .ok (.aload_n 0, 1) := by decide +kernel
theorem dX7_readCellOfWater_17 : decode cX7_readCellOfWater 17 = .ok (.getfield 41, 3) := by decide +kernel
theorem dX7_readCellOfWater_20 : decode cX7_readCellOfWater 20 = .ok (.invokevirtual 176, 3) := by decide +kernel
theorem dX7_readCellOfWater_23 : decode cX7_readCellOfWater 23 = .ok (.ifCond .eq 15, 3) := by decide +kernel
theorem dX7_readCellOfWater_26 : decode cX7_readCellOfWater 26 = .ok (.aload_n 0, 1) := by decide +kernel
theorem dX7_readCellOfWater_27 : decode cX7_readCellOfWater 27 = .ok (.iconst 5, 1) := by decide +kernel
theorem dX7_readCellOfWater_28 : decode cX7_readCellOfWater 28 = .ok (.aload_n 0, 1) := by decide +kernel
theorem dX7_readCellOfWater_29 : decode cX7_readCellOfWater 29 = .ok (.getfield 44, 3) := by decide +kernel
theorem dX7_readCellOfWater_32 : decode cX7_readCellOfWater 32 = .ok (.invokevirtual 149, 3) := by decide +kernel
theorem dX7_readCellOfWater_35 : decode cX7_readCellOfWater 35 = .ok (.ifCond .eq 7, 3) := by decide +kernel
theorem dX7_readCellOfWater_38 : decode cX7_readCellOfWater 38 = .ok (.iconst 1, 1) := by decide +kernel
theorem dX7_readCellOfWater_39 : decode cX7_readCellOfWater 39 = .ok (.goto 4, 3) := by decide +kernel
theorem dX7_readCellOfWater_42 : decode cX7_readCellOfWater 42 = .ok (.iconst 0, 1) := by decide +kernel
theorem dX7_readCellOfWater_43 : decode cX7_readCellOfWater 43 = .ok (.ireturn, 1) := by decide +kernel
noncomputable def b_X7_readCellOfWater_0 (rec : Rk) (h : Hp) : Option (Int × Hp) :=
  bd (f_X7_readCell h) fun v1 h2 =>
  if v1 = 0 then (
    some (0, h2)
  ) else (
    rf (gR h2 7 0 1) 0 fun j3 =>
    bd (f_X9_isLand j3 (gI h2 7 0 11) h2) fun v4 h5 =>
    if v4 = 0 then (
      rec 1 [] h5
    ) else (
      bd (f_X7_wrong 5 (gI h5 7 0 12) h5) fun v6 h7 =>
      if v6 = 0 then (
        some (0, h7)
      ) else (
        rec 1 [] h7
      )
    )
  )
noncomputable def b_X7_readCellOfWater_1 (rec : Rk) (h : Hp) : Option (Int × Hp) :=
  some (1, h)
noncomputable def g_X7_readCellOfWater (n : Nat) : Rk := Nat.rec (motive := fun _ => Rk) (fun _ _ _ => none) (fun _ rec k l h => if k = 0 then b_X7_readCellOfWater_0 rec  h else if k = 1 then b_X7_readCellOfWater_1 rec  h else none) n
noncomputable def f_X7_readCellOfWater (h : Hp) : Option (Int × Hp) := g_X7_readCellOfWater FU 0 [] h
set_option maxHeartbeats 4000000 in
set_option maxRecDepth 100000 in
theorem t_X7_readCellOfWater_0 (E : xE) (d : Nat) (rec : Rk) (r : Int × Hp) (hr_38 : ∀ (h : Hp), Lay h → rec 1 [] h = some r → X E mX7_readCellOfWater (d + 4) (0, 0) (0, 0) 38 [none] [] h (PoI r)) (h : Hp) (hL : Lay h) (hF : b_X7_readCellOfWater_0 rec  h = some r) : X E mX7_readCellOfWater (d + 4) (0, 0) (0, 0) 0 [some (xr 7 0)] [] h (PoI r) := by
  unfold b_X7_readCellOfWater_0 at hF
  refine x_aload_n (i := 0) (b := 1) dX7_readCellOfWater_0 rfl rfl rfl ?_
  obtain ⟨v1, h2, hq, hF⟩ := bd_e hF
  refine x_callV (as := []) (rest := []) (b := 4) (c_X7_readCell d h _ hL hq) dX7_readCellOfWater_1 cw_X7_173 ⟨_, _, rfl, Nat.le_of_ble_eq_true rfl⟩ rfl rfl (Nat.le_of_ble_eq_true rfl) ⟨Nat.le_refl _, Nat.le_refl _⟩ rfl (fun rv hh hp _ => ?_)
  obtain ⟨rfl, rfl, hL⟩ := hp
  refine x_if_ne (tgt := 9) (b := 7) dX7_readCellOfWater_4 (by decide) rfl (fun hc => ?_) (fun hc => ?_)
  · replace hF := br_F hc hF
    refine x_aload_n (i := 0) (b := 10) dX7_readCellOfWater_9 rfl rfl rfl ?_
    obtain ⟨j3, e_j3, hF⟩ := rf_e hF
    refine x_getR (v := some (0, j3)) (b := 13) fk_X7_76 dX7_readCellOfWater_10 rfl e_j3 rfl ?_
    refine x_getL (j := j3) (t := (9, 0, true)) (b := 16) fk_X7_158 dX7_readCellOfWater_13 rfl hL rfl rfl rfl ?_
    refine x_aload_n (i := 0) (b := 17) dX7_readCellOfWater_16 rfl rfl rfl ?_
    refine x_getI (v := gI h2 7 0 11) (b := 20) fk_X7_41 dX7_readCellOfWater_17 (by decide) rfl rfl ?_
    obtain ⟨v4, h5, hq, hF⟩ := bd_e hF
    refine x_callV (as := [xi (gI h2 7 0 11)]) (rest := []) (b := 23) (c_X9_isLand (d + 1) j3 (gI h2 7 0 11) h2 _ hL hq) dX7_readCellOfWater_20 cw_X7_176 ⟨_, _, rfl, Nat.le_of_ble_eq_true rfl⟩ rfl rfl (Nat.le_of_ble_eq_true rfl) ⟨Nat.le_refl _, Nat.le_refl _⟩ rfl (fun rv hh hp _ => ?_)
    obtain ⟨rfl, rfl, hL⟩ := hp
    refine x_if_eq (tgt := 38) (b := 26) dX7_readCellOfWater_23 (by decide) rfl (fun hc => ?_) (fun hc => ?_)
    · replace hF := br_T hc hF
      exact x_dp (ls2 := [none]) trivial (hr_38  h5 hL hF)
    · replace hF := br_F hc hF
      refine x_aload_n (i := 0) (b := 27) dX7_readCellOfWater_26 rfl rfl rfl ?_
      refine x_iconst (n := 5) (b := 28) dX7_readCellOfWater_27 (by decide) rfl ?_
      refine x_aload_n (i := 0) (b := 29) dX7_readCellOfWater_28 rfl rfl rfl ?_
      refine x_getI (v := gI h5 7 0 12) (b := 32) fk_X7_44 dX7_readCellOfWater_29 (by decide) rfl rfl ?_
      obtain ⟨v6, h7, hq, hF⟩ := bd_e hF
      refine x_callV (as := [xi 5, xi (gI h5 7 0 12)]) (rest := []) (b := 35) (c_X7_wrong (d + 2) 5 (gI h5 7 0 12) h5 _ hL hq) dX7_readCellOfWater_32 cw_X7_149 ⟨_, _, rfl, Nat.le_of_ble_eq_true rfl⟩ rfl rfl (Nat.le_of_ble_eq_true rfl) ⟨Nat.le_refl _, Nat.le_refl _⟩ rfl (fun rv hh hp _ => ?_)
      obtain ⟨rfl, rfl, hL⟩ := hp
      refine x_if_eq (tgt := 42) (b := 38) dX7_readCellOfWater_35 (by decide) rfl (fun hc => ?_) (fun hc => ?_)
      · replace hF := br_T hc hF
        refine x_iconst (n := 0) (b := 43) dX7_readCellOfWater_42 (by decide) rfl ?_
        refine x_zreturn dX7_readCellOfWater_43 rfl ⟨Nat.le_refl _, Nat.le_refl _⟩ (by decide) ?_
        cases hF
        exact ⟨rfl, rfl, hL⟩
      · replace hF := br_F hc hF
        exact x_dp (ls2 := [none]) trivial (hr_38  h7 hL hF)
  · replace hF := br_T hc hF
    refine x_iconst (n := 0) (b := 8) dX7_readCellOfWater_7 (by decide) rfl ?_
    refine x_zreturn dX7_readCellOfWater_8 rfl ⟨Nat.le_refl _, Nat.le_refl _⟩ (by decide) ?_
    cases hF
    exact ⟨rfl, rfl, hL⟩
set_option maxHeartbeats 4000000 in
set_option maxRecDepth 100000 in
theorem t_X7_readCellOfWater_1 (E : xE) (d : Nat) (rec : Rk) (r : Int × Hp) (h : Hp) (hL : Lay h) (hF : b_X7_readCellOfWater_1 rec  h = some r) : X E mX7_readCellOfWater (d + 4) (0, 0) (0, 0) 38 [none] [] h (PoI r) := by
  unfold b_X7_readCellOfWater_1 at hF
  refine x_iconst (n := 1) (b := 39) dX7_readCellOfWater_38 (by decide) rfl ?_
  refine x_goto (tgt := 43) dX7_readCellOfWater_39 (by decide) ?_
  refine x_zreturn dX7_readCellOfWater_43 rfl ⟨Nat.le_refl _, Nat.le_refl _⟩ (by decide) ?_
  cases hF
  exact ⟨rfl, rfl, hL⟩
set_option maxHeartbeats 4000000 in
set_option maxRecDepth 100000 in
theorem u_X7_readCellOfWater (E : xE) (d : Nat) (r : Int × Hp) : ∀ n : Nat, (∀ (h : Hp), Lay h → g_X7_readCellOfWater n 0 [] h = some r → X E mX7_readCellOfWater (d + 4) (0, 0) (0, 0) 0 [some (xr 7 0)] [] h (PoI r)) ∧ (∀ (h : Hp), Lay h → g_X7_readCellOfWater n 1 [] h = some r → X E mX7_readCellOfWater (d + 4) (0, 0) (0, 0) 38 [none] [] h (PoI r)) := by
  intro n
  induction n with
  | zero => exact ⟨fun _ _ hF => no_e (r := r) hF, fun _ _ hF => no_e (r := r) hF⟩
  | succ n ih => exact ⟨fun h hL hF => t_X7_readCellOfWater_0 E d (g_X7_readCellOfWater n) r ih.2  h hL hF, fun h hL hF => t_X7_readCellOfWater_1 E d (g_X7_readCellOfWater n) r   h hL hF⟩
theorem c_X7_readCellOfWater (d : Nat) (h : Hp) (r : Int × Hp) (hL : Lay h) (hF : f_X7_readCellOfWater  h = some r) : Sp mX7_readCellOfWater (d + 4) (0, 0) [xr 7 0] h (PoI r) :=
  sp_of (by decide) rfl (Nat.le_of_ble_eq_true rfl) (ls := [some (xr 7 0)]) rfl (fun E _ => (u_X7_readCellOfWater E d r FU).1  h hL hF)
theorem dX7_readExpression_0 : decode cX7_readExpression 0 = .ok (.aload_n 1, 1) := by decide +kernel
theorem dX7_readExpression_1 : decode cX7_readExpression 1 = .ok (.aload_n 0, 1) := by decide +kernel
theorem dX7_readExpression_2 : decode cX7_readExpression 2 = .ok (.getfield 76, 3) := by decide +kernel
theorem dX7_readExpression_5 : decode cX7_readExpression 5 = .ok (.getfield 313, 3) := by decide +kernel
theorem dX7_readExpression_8 : decode cX7_readExpression 8 = .ok (.getfield 317, 3) := by decide +kernel
theorem dX7_readExpression_11 : decode cX7_readExpression 11 = .ok (.putfield 318, 3) := by decide +kernel
theorem dX7_readExpression_14 : decode cX7_readExpression 14 = .ok (.aload_n 0, 1) := by decide +kernel
theorem dX7_readExpression_15 : decode cX7_readExpression 15 = .ok (.iconst 0, 1) := by decide +kernel
theorem dX7_readExpression_16 : decode cX7_readExpression 16 = .ok (.putfield 56, 3) := by decide +kernel
theorem dX7_readExpression_19 : decode cX7_readExpression 19 = .ok (.aload_n 0, 1) := by decide +kernel
theorem dX7_readExpression_20 : decode cX7_readExpression 20 = .ok (.iconst 0, 1) := by decide +kernel
theorem dX7_readExpression_21 : decode cX7_readExpression 21 = .ok (.putfield 59, 3) := by decide +kernel
theorem dX7_readExpression_24 : decode cX7_readExpression 24 = .ok (.aload_n 0, 1) := by decide +kernel
theorem dX7_readExpression_25 : decode cX7_readExpression 25 = .ok (.iconst 1, 1) := by decide +kernel
theorem dX7_readExpression_26 : decode cX7_readExpression 26 = .ok (.putfield 65, 3) := by decide +kernel
theorem dX7_readExpression_29 : decode cX7_readExpression 29 = .ok (.iconst 0, 1) := by decide +kernel
theorem dX7_readExpression_30 : decode cX7_readExpression 30 = .ok (.istore_n 2, 1) := by decide +kernel
theorem dX7_readExpression_31 : decode cX7_readExpression 31 = .ok (.iload_n 2, 1) := by decide +kernel
theorem dX7_readExpression_32 : decode cX7_readExpression 32 = .ok (.sipush 800, 3) := by decide +kernel
theorem dX7_readExpression_35 : decode cX7_readExpression 35 = .ok (.if_icmp .gt 53, 3) := by decide +kernel
theorem dX7_readExpression_38 : decode cX7_readExpression 38 = .ok (.aload_n 0, 1) := by decide +kernel
theorem dX7_readExpression_39 : decode cX7_readExpression 39 = .ok (.getfield 65, 3) := by decide +kernel
theorem dX7_readExpression_42 : decode cX7_readExpression 42 = .ok (.ifCond .ne 10, 3) := by decide +kernel
theorem dX7_readExpression_45 : decode cX7_readExpression 45 = .ok (.aload_n 0, 1) := by decide +kernel
theorem dX7_readExpression_46 : decode cX7_readExpression 46 = .ok (.invokevirtual 321, 3) := by decide +kernel
theorem dX7_readExpression_49 : decode cX7_readExpression 49 = .ok (.ifCond .eq 39, 3) := by decide +kernel
theorem dX7_readExpression_52 : decode cX7_readExpression 52 = .ok (.aload_n 0, 1) := by decide +kernel
theorem dX7_readExpression_53 : decode cX7_readExpression 53 = .ok (.getfield 65, 3) := by decide +kernel
theorem dX7_readExpression_56 : decode cX7_readExpression 56 = .ok (.ifCond .eq 13, 3) := by decide +kernel
theorem dX7_readExpression_59 : decode cX7_readExpression 59 = .ok (.aload_n 0, 1) := by decide +kernel
theorem dX7_readExpression_60 : decode cX7_readExpression 60 = .ok (.invokevirtual 324, 3) := by decide +kernel
theorem dX7_readExpression_63 : decode cX7_readExpression 63 = .ok (.ifCond .ne 15, 3) := by decide +kernel
theorem dX7_readExpression_66 : decode cX7_readExpression 66 = .ok (.goto 10, 3) := by decide +kernel
theorem dX7_readExpression_69 : decode cX7_readExpression 69 = .ok (.aload_n 0, 1) := by decide +kernel
theorem dX7_readExpression_70 : decode cX7_readExpression 70 = .ok (.invokevirtual 327, 3) := by decide +kernel
theorem dX7_readExpression_73 : decode cX7_readExpression 73 = .ok (.ifCond .ne 5, 3) := by decide +kernel
theorem dX7_readExpression_76 : decode cX7_readExpression 76 = .ok (.iconst 0, 1) := by decide +kernel
theorem dX7_readExpression_77 : decode cX7_readExpression 77 = .ok (.ireturn, 1) := by decide +kernel
theorem dX7_readExpression_78 : decode cX7_readExpression 78 = .ok (.aload_n 0, 1) := by decide +kernel
theorem dX7_readExpression_79 : decode cX7_readExpression 79 = .ok (.invokevirtual 89, 3) := by decide +kernel
theorem dX7_readExpression_82 : decode cX7_readExpression 82 = .ok (.iinc 2 1, 3) := by decide +kernel
theorem dX7_readExpression_85 : decode cX7_readExpression 85 = .ok (.goto (-54), 3) := by decide +kernel
theorem dX7_readExpression_88 : decode cX7_readExpression 88 = .ok (.aload_n 0, 1) := by decide +kernel
theorem dX7_readExpression_89 : decode cX7_readExpression 89 = .ok (.getfield 59, 3) := by decide +kernel
theorem dX7_readExpression_92 : decode cX7_readExpression 92 = .ok (.ifCond .le 13, 3) := by decide +kernel
theorem dX7_readExpression_95 : decode cX7_readExpression 95 = .ok (.aload_n 0, 1) := by decide +kernel
theorem dX7_readExpression_96 : decode cX7_readExpression 96 = .ok (.iconst 1, 1) := by decide +kernel
theorem dX7_readExpression_97 : decode cX7_readExpression 97 = .ok (.aload_n 0, 1) := by decide +kernel
theorem dX7_readExpression_98 : decode cX7_readExpression 98 = .ok (.getfield 29, 3) := by decide +kernel
theorem dX7_readExpression_101 : decode cX7_readExpression 101 = .ok (.invokevirtual 149, 3) := by decide +kernel
theorem dX7_readExpression_104 : decode cX7_readExpression 104 = .ok (.ireturn, 1) := by decide +kernel
theorem dX7_readExpression_105 : decode cX7_readExpression 105 = .ok (.aload_n 0, 1) := by decide +kernel
theorem dX7_readExpression_106 : decode cX7_readExpression 106 = .ok (.iconst 1, 1) := by decide +kernel
theorem dX7_readExpression_107 : decode cX7_readExpression 107 = .ok (.invokevirtual 330, 3) := by decide +kernel
theorem dX7_readExpression_110 : decode cX7_readExpression 110 = .ok (.aload_n 1, 1) := by decide +kernel
theorem dX7_readExpression_111 : decode cX7_readExpression 111 = .ok (.aload_n 0, 1) := by decide +kernel
theorem dX7_readExpression_112 : decode cX7_readExpression 112 = .ok (.getfield 76, 3) := by decide +kernel
theorem dX7_readExpression_115 : decode cX7_readExpression 115 = .ok (.getfield 313, 3) := by decide +kernel
theorem dX7_readExpression_118 : decode cX7_readExpression 118 = .ok (.getfield 317, 3) := by decide +kernel
theorem dX7_readExpression_121 : decode cX7_readExpression 121 = .ok (.putfield 333, 3) := by decide +kernel
theorem dX7_readExpression_124 : decode cX7_readExpression 124 = .ok (.iconst 1, 1) := by decide +kernel
theorem dX7_readExpression_125 : decode cX7_readExpression 125 = .ok (.ireturn, 1) := by decide +kernel
noncomputable def b_X7_readExpression_0 (rec : Rk) (x1 : Int) (h : Hp) : Option (Int × Hp) :=
  rf (gR h 7 0 1) 0 fun j1 =>
  lt (sI h 4 x1 8 (gI h 1 j1 2)) fun h2 =>
  lt (sI h2 7 0 15 0) fun h3 =>
  lt (sI h3 7 0 16 0) fun h4 =>
  lt (sI h4 7 0 18 1) fun h5 =>
  rec 1 [x1, 0] h5
noncomputable def b_X7_readExpression_1 (rec : Rk) (x1 x2 : Int) (h : Hp) : Option (Int × Hp) :=
  if 800 < x2 then (
    rec 4 [x1] h
  ) else (
    if (gI h 7 0 18) = 0 then (
      bd (f_X7_goesOn h) fun v1 h2 =>
      if v1 = 0 then (
        rec 4 [x1] h2
      ) else (
        rec 2 [x1, x2] h2
      )
    ) else (
      rec 2 [x1, x2] h
    )
  )
noncomputable def b_X7_readExpression_2 (rec : Rk) (x1 x2 : Int) (h : Hp) : Option (Int × Hp) :=
  if (gI h 7 0 18) = 0 then (
    bd (f_X7_takeSign h) fun v1 h2 =>
    if v1 = 0 then (
      some (0, h2)
    ) else (
      rec 3 [x1, x2] h2
    )
  ) else (
    bd (f_X7_takePart h) fun v3 h4 =>
    if v3 = 0 then (
      some (0, h4)
    ) else (
      rec 3 [x1, x2] h4
    )
  )
noncomputable def b_X7_readExpression_3 (rec : Rk) (x1 x2 : Int) (h : Hp) : Option (Int × Hp) :=
  bd (f_X7_advance h) fun v1 h2 =>
  ck (-2147483648 ≤ x2 + 1 ∧ x2 + 1 < 2147483648) <|
  rec 1 [x1, x2 + 1] h2
noncomputable def b_X7_readExpression_4 (rec : Rk) (x1 : Int) (h : Hp) : Option (Int × Hp) :=
  if (gI h 7 0 16) ≤ 0 then (
    bd (f_X7_release 1 h) fun v1 h2 =>
    rf (gR h2 7 0 1) 0 fun j3 =>
    lt (sI h2 4 x1 9 (gI h2 1 j3 2)) fun h4 =>
    some (1, h4)
  ) else (
    bd (f_X7_wrong 1 (gI h 7 0 7) h) fun v5 h6 =>
    ck (0 ≤ v5 ∧ v5 < 2) <|
    some (v5, h6)
  )
noncomputable def g_X7_readExpression (n : Nat) : Rk := Nat.rec (motive := fun _ => Rk) (fun _ _ _ => none) (fun _ rec k l h => if k = 0 then b_X7_readExpression_0 rec (l.getD 0 0) h else if k = 1 then b_X7_readExpression_1 rec (l.getD 0 0) (l.getD 1 0) h else if k = 2 then b_X7_readExpression_2 rec (l.getD 0 0) (l.getD 1 0) h else if k = 3 then b_X7_readExpression_3 rec (l.getD 0 0) (l.getD 1 0) h else if k = 4 then b_X7_readExpression_4 rec (l.getD 0 0) h else none) n
noncomputable def f_X7_readExpression (x1 : Int) (h : Hp) : Option (Int × Hp) := g_X7_readExpression FU 0 [x1] h
set_option maxHeartbeats 4000000 in
set_option maxRecDepth 100000 in
theorem t_X7_readExpression_0 (E : xE) (d : Nat) (rec : Rk) (r : Int × Hp) (hr_31 : ∀ (x1 x2 : Int) (h : Hp), Lay h → rec 1 [x1, x2] h = some r → X E mX7_readExpression (d + 4) (0, 0) (0, 0) 31 [some (xr 7 0), some (xr 4 x1), some (xi x2)] [] h (PoI r)) (x1 : Int) (h : Hp) (hL : Lay h) (hF : b_X7_readExpression_0 rec x1 h = some r) : X E mX7_readExpression (d + 4) (0, 0) (0, 0) 0 [some (xr 7 0), some (xr 4 x1), none] [] h (PoI r) := by
  unfold b_X7_readExpression_0 at hF
  refine x_aload_n (i := 1) (b := 1) dX7_readExpression_0 rfl rfl rfl ?_
  refine x_aload_n (i := 0) (b := 2) dX7_readExpression_1 rfl rfl rfl ?_
  obtain ⟨j1, e_j1, hF⟩ := rf_e hF
  refine x_getR (v := some (0, j1)) (b := 5) fk_X7_76 dX7_readExpression_2 rfl e_j1 rfl ?_
  refine x_getL (j := j1) (t := (1, 0, true)) (b := 8) fk_X7_313 dX7_readExpression_5 rfl hL rfl rfl rfl ?_
  refine x_getI (v := gI h 1 j1 2) (b := 11) fk_X7_317 dX7_readExpression_8 (by decide) rfl rfl ?_
  refine x_putI (b := 14) fk_X7_318 dX7_readExpression_11 rfl rfl 8 rfl ?_
  obtain ⟨h2, e_h2, hF⟩ := lt_e hF
  refine x_hp (h2 := h2) e_h2 ?_
  replace hL : Lay h2 := by rw [← e_h2]; exact hL
  refine x_aload_n (i := 0) (b := 15) dX7_readExpression_14 rfl rfl rfl ?_
  refine x_iconst (n := 0) (b := 16) dX7_readExpression_15 (by decide) rfl ?_
  refine x_putI (b := 19) fk_X7_56 dX7_readExpression_16 rfl rfl 15 rfl ?_
  obtain ⟨h3, e_h3, hF⟩ := lt_e hF
  refine x_hp (h2 := h3) e_h3 ?_
  replace hL : Lay h3 := by rw [← e_h3]; exact hL
  refine x_aload_n (i := 0) (b := 20) dX7_readExpression_19 rfl rfl rfl ?_
  refine x_iconst (n := 0) (b := 21) dX7_readExpression_20 (by decide) rfl ?_
  refine x_putI (b := 24) fk_X7_59 dX7_readExpression_21 rfl rfl 16 rfl ?_
  obtain ⟨h4, e_h4, hF⟩ := lt_e hF
  refine x_hp (h2 := h4) e_h4 ?_
  replace hL : Lay h4 := by rw [← e_h4]; exact hL
  refine x_aload_n (i := 0) (b := 25) dX7_readExpression_24 rfl rfl rfl ?_
  refine x_iconst (n := 1) (b := 26) dX7_readExpression_25 (by decide) rfl ?_
  refine x_putZ (b := 29) fk_X7_65 dX7_readExpression_26 rfl (by decide) rfl 18 rfl ?_
  obtain ⟨h5, e_h5, hF⟩ := lt_e hF
  refine x_hp (h2 := h5) e_h5 ?_
  replace hL : Lay h5 := by rw [← e_h5]; exact hL
  refine x_iconst (n := 0) (b := 30) dX7_readExpression_29 (by decide) rfl ?_
  refine x_istore_n (i := 2) (b := 31) (ls2 := [some (xr 7 0), some (xr 4 x1), some (xi 0)]) dX7_readExpression_30 rfl (Nat.le_of_ble_eq_true rfl) rfl rfl ?_
  exact x_dp (ls2 := [some (xr 7 0), some (xr 4 x1), some (xi 0)]) ⟨rfl, rfl, rfl, trivial⟩ (hr_31 x1 0 h5 hL hF)
set_option maxHeartbeats 4000000 in
set_option maxRecDepth 100000 in
theorem t_X7_readExpression_1 (E : xE) (d : Nat) (rec : Rk) (r : Int × Hp) (hr_52 : ∀ (x1 x2 : Int) (h : Hp), Lay h → rec 2 [x1, x2] h = some r → X E mX7_readExpression (d + 4) (0, 0) (0, 0) 52 [some (xr 7 0), some (xr 4 x1), some (xi x2)] [] h (PoI r)) (hr_88 : ∀ (x1 : Int) (h : Hp), Lay h → rec 4 [x1] h = some r → X E mX7_readExpression (d + 4) (0, 0) (0, 0) 88 [some (xr 7 0), some (xr 4 x1), none] [] h (PoI r)) (x1 x2 : Int) (h : Hp) (hL : Lay h) (hF : b_X7_readExpression_1 rec x1 x2 h = some r) : X E mX7_readExpression (d + 4) (0, 0) (0, 0) 31 [some (xr 7 0), some (xr 4 x1), some (xi x2)] [] h (PoI r) := by
  unfold b_X7_readExpression_1 at hF
  refine x_iload_n (i := 2) (b := 32) dX7_readExpression_31 rfl rfl rfl ?_
  refine x_sipush (n := 800) (b := 35) dX7_readExpression_32 (by decide) rfl ?_
  refine x_icmp_gt (tgt := 88) (b := 38) dX7_readExpression_35 (by decide) rfl (fun hc => ?_) (fun hc => ?_)
  · replace hF := br_T hc hF
    exact x_dp (ls2 := [some (xr 7 0), some (xr 4 x1), none]) ⟨rfl, rfl, trivial⟩ (hr_88 x1 h hL hF)
  · replace hF := br_F hc hF
    refine x_aload_n (i := 0) (b := 39) dX7_readExpression_38 rfl rfl rfl ?_
    refine x_getI (v := gI h 7 0 18) (b := 42) fk_X7_65 dX7_readExpression_39 (by decide) rfl rfl ?_
    refine x_if_ne (tgt := 52) (b := 45) dX7_readExpression_42 (by decide) rfl (fun hc => ?_) (fun hc => ?_)
    · replace hF := br_F hc hF
      exact x_dp (ls2 := [some (xr 7 0), some (xr 4 x1), some (xi x2)]) ⟨rfl, rfl, rfl, trivial⟩ (hr_52 x1 x2 h hL hF)
    · replace hF := br_T hc hF
      refine x_aload_n (i := 0) (b := 46) dX7_readExpression_45 rfl rfl rfl ?_
      obtain ⟨v1, h2, hq, hF⟩ := bd_e hF
      refine x_callV (as := []) (rest := []) (b := 49) (c_X7_goesOn (d + 2) h _ hL hq) dX7_readExpression_46 cw_X7_321 ⟨_, _, rfl, Nat.le_of_ble_eq_true rfl⟩ rfl rfl (Nat.le_of_ble_eq_true rfl) ⟨Nat.le_refl _, Nat.le_refl _⟩ rfl (fun rv hh hp _ => ?_)
      obtain ⟨rfl, rfl, hL⟩ := hp
      refine x_if_eq (tgt := 88) (b := 52) dX7_readExpression_49 (by decide) rfl (fun hc => ?_) (fun hc => ?_)
      · replace hF := br_T hc hF
        exact x_dp (ls2 := [some (xr 7 0), some (xr 4 x1), none]) ⟨rfl, rfl, trivial⟩ (hr_88 x1 h2 hL hF)
      · replace hF := br_F hc hF
        exact x_dp (ls2 := [some (xr 7 0), some (xr 4 x1), some (xi x2)]) ⟨rfl, rfl, rfl, trivial⟩ (hr_52 x1 x2 h2 hL hF)
set_option maxHeartbeats 4000000 in
set_option maxRecDepth 100000 in
theorem t_X7_readExpression_2 (E : xE) (d : Nat) (rec : Rk) (r : Int × Hp) (hr_78 : ∀ (x1 x2 : Int) (h : Hp), Lay h → rec 3 [x1, x2] h = some r → X E mX7_readExpression (d + 4) (0, 0) (0, 0) 78 [some (xr 7 0), some (xr 4 x1), some (xi x2)] [] h (PoI r)) (x1 x2 : Int) (h : Hp) (hL : Lay h) (hF : b_X7_readExpression_2 rec x1 x2 h = some r) : X E mX7_readExpression (d + 4) (0, 0) (0, 0) 52 [some (xr 7 0), some (xr 4 x1), some (xi x2)] [] h (PoI r) := by
  unfold b_X7_readExpression_2 at hF
  refine x_aload_n (i := 0) (b := 53) dX7_readExpression_52 rfl rfl rfl ?_
  refine x_getI (v := gI h 7 0 18) (b := 56) fk_X7_65 dX7_readExpression_53 (by decide) rfl rfl ?_
  refine x_if_eq (tgt := 69) (b := 59) dX7_readExpression_56 (by decide) rfl (fun hc => ?_) (fun hc => ?_)
  · replace hF := br_T hc hF
    refine x_aload_n (i := 0) (b := 70) dX7_readExpression_69 rfl rfl rfl ?_
    obtain ⟨v1, h2, hq, hF⟩ := bd_e hF
    refine x_callV (as := []) (rest := []) (b := 73) (c_X7_takeSign d h _ hL hq) dX7_readExpression_70 cw_X7_327 ⟨_, _, rfl, Nat.le_of_ble_eq_true rfl⟩ rfl rfl (Nat.le_of_ble_eq_true rfl) ⟨Nat.le_refl _, Nat.le_refl _⟩ rfl (fun rv hh hp _ => ?_)
    obtain ⟨rfl, rfl, hL⟩ := hp
    refine x_if_ne (tgt := 78) (b := 76) dX7_readExpression_73 (by decide) rfl (fun hc => ?_) (fun hc => ?_)
    · replace hF := br_F hc hF
      exact x_dp (ls2 := [some (xr 7 0), some (xr 4 x1), some (xi x2)]) ⟨rfl, rfl, rfl, trivial⟩ (hr_78 x1 x2 h2 hL hF)
    · replace hF := br_T hc hF
      refine x_iconst (n := 0) (b := 77) dX7_readExpression_76 (by decide) rfl ?_
      refine x_zreturn dX7_readExpression_77 rfl ⟨Nat.le_refl _, Nat.le_refl _⟩ (by decide) ?_
      cases hF
      exact ⟨rfl, rfl, hL⟩
  · replace hF := br_F hc hF
    refine x_aload_n (i := 0) (b := 60) dX7_readExpression_59 rfl rfl rfl ?_
    obtain ⟨v3, h4, hq, hF⟩ := bd_e hF
    refine x_callV (as := []) (rest := []) (b := 63) (c_X7_takePart d h _ hL hq) dX7_readExpression_60 cw_X7_324 ⟨_, _, rfl, Nat.le_of_ble_eq_true rfl⟩ rfl rfl (Nat.le_of_ble_eq_true rfl) ⟨Nat.le_refl _, Nat.le_refl _⟩ rfl (fun rv hh hp _ => ?_)
    obtain ⟨rfl, rfl, hL⟩ := hp
    refine x_if_ne (tgt := 78) (b := 66) dX7_readExpression_63 (by decide) rfl (fun hc => ?_) (fun hc => ?_)
    · replace hF := br_F hc hF
      exact x_dp (ls2 := [some (xr 7 0), some (xr 4 x1), some (xi x2)]) ⟨rfl, rfl, rfl, trivial⟩ (hr_78 x1 x2 h4 hL hF)
    · replace hF := br_T hc hF
      refine x_goto (tgt := 76) dX7_readExpression_66 (by decide) ?_
      refine x_iconst (n := 0) (b := 77) dX7_readExpression_76 (by decide) rfl ?_
      refine x_zreturn dX7_readExpression_77 rfl ⟨Nat.le_refl _, Nat.le_refl _⟩ (by decide) ?_
      cases hF
      exact ⟨rfl, rfl, hL⟩
set_option maxHeartbeats 4000000 in
set_option maxRecDepth 100000 in
theorem t_X7_readExpression_3 (E : xE) (d : Nat) (rec : Rk) (r : Int × Hp) (hr_31 : ∀ (x1 x2 : Int) (h : Hp), Lay h → rec 1 [x1, x2] h = some r → X E mX7_readExpression (d + 4) (0, 0) (0, 0) 31 [some (xr 7 0), some (xr 4 x1), some (xi x2)] [] h (PoI r)) (x1 x2 : Int) (h : Hp) (hL : Lay h) (hF : b_X7_readExpression_3 rec x1 x2 h = some r) : X E mX7_readExpression (d + 4) (0, 0) (0, 0) 78 [some (xr 7 0), some (xr 4 x1), some (xi x2)] [] h (PoI r) := by
  unfold b_X7_readExpression_3 at hF
  refine x_aload_n (i := 0) (b := 79) dX7_readExpression_78 rfl rfl rfl ?_
  obtain ⟨v1, h2, hq, hF⟩ := bd_e hF
  refine x_callV (as := []) (rest := []) (b := 82) (c_X7_advance (d + 2) h _ hL hq) dX7_readExpression_79 cw_X7_89 ⟨_, _, rfl, Nat.le_of_ble_eq_true rfl⟩ rfl rfl (Nat.le_of_ble_eq_true rfl) ⟨Nat.le_refl _, Nat.le_refl _⟩ rfl (fun rv hh hp _ => ?_)
  obtain ⟨rfl, rfl, hL⟩ := hp
  obtain ⟨hs, hF⟩ := ck_e hF
  refine x_iinc (i := 2) (b := 85) (ls2 := [some (xr 7 0), some (xr 4 x1), some (xi (x2 + 1))]) dX7_readExpression_82 rfl (Nat.le_of_ble_eq_true rfl) hs rfl rfl ?_
  refine x_goto (tgt := 31) dX7_readExpression_85 (by decide) ?_
  exact x_dp (ls2 := [some (xr 7 0), some (xr 4 x1), some (xi (x2 + 1))]) ⟨rfl, rfl, rfl, trivial⟩ (hr_31 x1 (x2 + 1) h2 hL hF)
set_option maxHeartbeats 4000000 in
set_option maxRecDepth 100000 in
theorem t_X7_readExpression_4 (E : xE) (d : Nat) (rec : Rk) (r : Int × Hp) (x1 : Int) (h : Hp) (hL : Lay h) (hF : b_X7_readExpression_4 rec x1 h = some r) : X E mX7_readExpression (d + 4) (0, 0) (0, 0) 88 [some (xr 7 0), some (xr 4 x1), none] [] h (PoI r) := by
  unfold b_X7_readExpression_4 at hF
  refine x_aload_n (i := 0) (b := 89) dX7_readExpression_88 rfl rfl rfl ?_
  refine x_getI (v := gI h 7 0 16) (b := 92) fk_X7_59 dX7_readExpression_89 (by decide) rfl rfl ?_
  refine x_if_le (tgt := 105) (b := 95) dX7_readExpression_92 (by decide) rfl (fun hc => ?_) (fun hc => ?_)
  · replace hF := br_T hc hF
    refine x_aload_n (i := 0) (b := 106) dX7_readExpression_105 rfl rfl rfl ?_
    refine x_iconst (n := 1) (b := 107) dX7_readExpression_106 (by decide) rfl ?_
    obtain ⟨v1, h2, hq, hF⟩ := bd_e hF
    refine x_callV (as := [xi 1]) (rest := []) (b := 110) (c_X7_release (d + 1) 1 h _ hL hq) dX7_readExpression_107 cw_X7_330 ⟨_, _, rfl, Nat.le_of_ble_eq_true rfl⟩ rfl rfl (Nat.le_of_ble_eq_true rfl) ⟨Nat.le_refl _, Nat.le_refl _⟩ rfl (fun rv hh hp _ => ?_)
    obtain ⟨rfl, rfl, hL⟩ := hp
    refine x_aload_n (i := 1) (b := 111) dX7_readExpression_110 rfl rfl rfl ?_
    refine x_aload_n (i := 0) (b := 112) dX7_readExpression_111 rfl rfl rfl ?_
    obtain ⟨j3, e_j3, hF⟩ := rf_e hF
    refine x_getR (v := some (0, j3)) (b := 115) fk_X7_76 dX7_readExpression_112 rfl e_j3 rfl ?_
    refine x_getL (j := j3) (t := (1, 0, true)) (b := 118) fk_X7_313 dX7_readExpression_115 rfl hL rfl rfl rfl ?_
    refine x_getI (v := gI h2 1 j3 2) (b := 121) fk_X7_317 dX7_readExpression_118 (by decide) rfl rfl ?_
    refine x_putI (b := 124) fk_X7_333 dX7_readExpression_121 rfl rfl 9 rfl ?_
    obtain ⟨h4, e_h4, hF⟩ := lt_e hF
    refine x_hp (h2 := h4) e_h4 ?_
    replace hL : Lay h4 := by rw [← e_h4]; exact hL
    refine x_iconst (n := 1) (b := 125) dX7_readExpression_124 (by decide) rfl ?_
    refine x_zreturn dX7_readExpression_125 rfl ⟨Nat.le_refl _, Nat.le_refl _⟩ (by decide) ?_
    cases hF
    exact ⟨rfl, rfl, hL⟩
  · replace hF := br_F hc hF
    refine x_aload_n (i := 0) (b := 96) dX7_readExpression_95 rfl rfl rfl ?_
    refine x_iconst (n := 1) (b := 97) dX7_readExpression_96 (by decide) rfl ?_
    refine x_aload_n (i := 0) (b := 98) dX7_readExpression_97 rfl rfl rfl ?_
    refine x_getI (v := gI h 7 0 7) (b := 101) fk_X7_29 dX7_readExpression_98 (by decide) rfl rfl ?_
    obtain ⟨v5, h6, hq, hF⟩ := bd_e hF
    refine x_callV (as := [xi 1, xi (gI h 7 0 7)]) (rest := []) (b := 104) (c_X7_wrong (d + 2) 1 (gI h 7 0 7) h _ hL hq) dX7_readExpression_101 cw_X7_149 ⟨_, _, rfl, Nat.le_of_ble_eq_true rfl⟩ rfl rfl (Nat.le_of_ble_eq_true rfl) ⟨Nat.le_refl _, Nat.le_refl _⟩ rfl (fun rv hh hp _ => ?_)
    obtain ⟨rfl, rfl, hL⟩ := hp
    obtain ⟨hs, hF⟩ := ck_e hF
    refine x_zreturn dX7_readExpression_104 rfl ⟨Nat.le_refl _, Nat.le_refl _⟩ hs ?_
    cases hF
    exact ⟨rfl, rfl, hL⟩
set_option maxHeartbeats 4000000 in
set_option maxRecDepth 100000 in
theorem u_X7_readExpression (E : xE) (d : Nat) (r : Int × Hp) : ∀ n : Nat, (∀ (x1 : Int) (h : Hp), Lay h → g_X7_readExpression n 0 [x1] h = some r → X E mX7_readExpression (d + 4) (0, 0) (0, 0) 0 [some (xr 7 0), some (xr 4 x1), none] [] h (PoI r)) ∧ (∀ (x1 x2 : Int) (h : Hp), Lay h → g_X7_readExpression n 1 [x1, x2] h = some r → X E mX7_readExpression (d + 4) (0, 0) (0, 0) 31 [some (xr 7 0), some (xr 4 x1), some (xi x2)] [] h (PoI r)) ∧ (∀ (x1 x2 : Int) (h : Hp), Lay h → g_X7_readExpression n 2 [x1, x2] h = some r → X E mX7_readExpression (d + 4) (0, 0) (0, 0) 52 [some (xr 7 0), some (xr 4 x1), some (xi x2)] [] h (PoI r)) ∧ (∀ (x1 x2 : Int) (h : Hp), Lay h → g_X7_readExpression n 3 [x1, x2] h = some r → X E mX7_readExpression (d + 4) (0, 0) (0, 0) 78 [some (xr 7 0), some (xr 4 x1), some (xi x2)] [] h (PoI r)) ∧ (∀ (x1 : Int) (h : Hp), Lay h → g_X7_readExpression n 4 [x1] h = some r → X E mX7_readExpression (d + 4) (0, 0) (0, 0) 88 [some (xr 7 0), some (xr 4 x1), none] [] h (PoI r)) := by
  intro n
  induction n with
  | zero => exact ⟨fun _ _ _ hF => no_e (r := r) hF, fun _ _ _ _ hF => no_e (r := r) hF, fun _ _ _ _ hF => no_e (r := r) hF, fun _ _ _ _ hF => no_e (r := r) hF, fun _ _ _ hF => no_e (r := r) hF⟩
  | succ n ih => exact ⟨fun x1 h hL hF => t_X7_readExpression_0 E d (g_X7_readExpression n) r ih.2.1 x1 h hL hF, fun x1 x2 h hL hF => t_X7_readExpression_1 E d (g_X7_readExpression n) r ih.2.2.1 ih.2.2.2.2 x1 x2 h hL hF, fun x1 x2 h hL hF => t_X7_readExpression_2 E d (g_X7_readExpression n) r ih.2.2.2.1 x1 x2 h hL hF, fun x1 x2 h hL hF => t_X7_readExpression_3 E d (g_X7_readExpression n) r ih.2.1 x1 x2 h hL hF, fun x1 h hL hF => t_X7_readExpression_4 E d (g_X7_readExpression n) r  x1 h hL hF⟩
theorem c_X7_readExpression (d : Nat) (x1 : Int) (h : Hp) (r : Int × Hp) (hL : Lay h) (hF : f_X7_readExpression x1 h = some r) : Sp mX7_readExpression (d + 4) (0, 0) [xr 7 0, xr 4 x1] h (PoI r) :=
  sp_of (by decide) rfl (Nat.le_of_ble_eq_true rfl) (ls := [some (xr 7 0), some (xr 4 x1), none]) rfl (fun E _ => (u_X7_readExpression E d r FU).1 x1 h hL hF)
theorem dX7_readGale_0 : decode cX7_readGale 0 = .ok (.aload_n 0, 1) := by decide +kernel
theorem dX7_readGale_1 : decode cX7_readGale 1 = .ok (.getfield 76, 3) := by decide +kernel
theorem dX7_readGale_4 : decode cX7_readGale 4 = .ok (.getfield 226, 3) := by decide +kernel
theorem dX7_readGale_7 : decode cX7_readGale 7 = .ok (.istore_n 2, 1) := by decide +kernel
theorem dX7_readGale_8 : decode cX7_readGale 8 = .ok (.iload_n 2, 1) := by decide +kernel
theorem dX7_readGale_9 : decode cX7_readGale 9 = .ok (.ifCond .lt 8, 3) := by decide +kernel
theorem dX7_readGale_12 : decode cX7_readGale 12 = .ok (.iload_n 2, 1) := by decide +kernel
theorem dX7_readGale_13 : decode cX7_readGale 13 = .ok (.iconst 4, 1) := by decide +kernel
theorem dX7_readGale_14 : decode cX7_readGale 14 = .ok (.if_icmp .lt 10, 3) := by decide +kernel
theorem dX7_readGale_17 : decode cX7_readGale 17 = .ok (.aload_n 0, 1) := by decide +kernel
theorem dX7_readGale_18 : decode cX7_readGale 18 = .ok (.iconst 2, 1) := by decide +kernel
theorem dX7_readGale_19 : decode cX7_readGale 19 = .ok (.iload_n 1, 1) := by decide +kernel
theorem dX7_readGale_20 : decode cX7_readGale 20 = .ok (.invokevirtual 149, 3) := by decide +kernel
theorem dX7_readGale_23 : decode cX7_readGale 23 = .ok (.ireturn, 1) := by decide +kernel
theorem dX7_readGale_24 : decode cX7_readGale 24 = .ok (.aload_n 0, 1) := by decide +kernel
theorem dX7_readGale_25 : decode cX7_readGale 25 = .ok (.iconst 0, 1) := by decide +kernel
theorem dX7_readGale_26 : decode cX7_readGale 26 = .ok (.bipush 59, 2) := by decide +kernel
theorem dX7_readGale_28 : decode cX7_readGale 28 = .ok (.invokevirtual 167, 3) := by decide +kernel
theorem dX7_readGale_31 : decode cX7_readGale 31 = .ok (.ifCond .ne 5, 3) := by decide +kernel
theorem dX7_readGale_34 : decode cX7_readGale 34 = .ok (.iconst 0, 1) := by decide +kernel
theorem dX7_readGale_35 : decode cX7_readGale 35 = .ok (.ireturn, 1) := by decide +kernel
theorem dX7_readGale_36 : decode cX7_readGale 36 = .ok (.aload_n 0, 1) := by decide +kernel
theorem dX7_readGale_37 : decode cX7_readGale 37 = .ok (.getfield 76, 3) := by decide +kernel
theorem dX7_readGale_40 : decode cX7_readGale 40 = .ok (.getfield 229, 3) := by decide +kernel
theorem dX7_readGale_43 : decode cX7_readGale 43 = .ok (.iload_n 2, 1) := by decide +kernel
theorem dX7_readGale_44 : decode cX7_readGale 44 = .ok (.aload_n 0, 1) := by decide +kernel
theorem dX7_readGale_45 : decode cX7_readGale 45 = .ok (.getfield 41, 3) := by decide +kernel
theorem dX7_readGale_48 : decode cX7_readGale 48 = .ok (.iastore, 1) := by decide +kernel
theorem dX7_readGale_49 : decode cX7_readGale 49 = .ok (.aload_n 0, 1) := by decide +kernel
theorem dX7_readGale_50 : decode cX7_readGale 50 = .ok (.iconst 0, 1) := by decide +kernel
theorem dX7_readGale_51 : decode cX7_readGale 51 = .ok (.iconst 3, 1) := by decide +kernel
theorem dX7_readGale_52 : decode cX7_readGale 52 = .ok (.invokevirtual 167, 3) := by decide +kernel
theorem dX7_readGale_55 : decode cX7_readGale 55 = .ok (.ifCond .ne 5, 3) := by decide +kernel
theorem dX7_readGale_58 : decode cX7_readGale 58 = .ok (.iconst 0, 1) := by decide +kernel
theorem dX7_readGale_59 : decode cX7_readGale 59 = .ok (.ireturn, 1) := by decide +kernel
theorem dX7_readGale_60 : decode cX7_readGale 60 = .ok (.aload_n 0, 1) := by decide +kernel
theorem dX7_readGale_61 : decode cX7_readGale 61 = .ok (.getfield 76, 3) := by decide +kernel
theorem dX7_readGale_64 : decode cX7_readGale 64 = .ok (.getfield 232, 3) := by decide +kernel
theorem dX7_readGale_67 : decode cX7_readGale 67 = .ok (.iload_n 2, 1) := by decide +kernel
theorem dX7_readGale_68 : decode cX7_readGale 68 = .ok (.aload_n 0, 1) := by decide +kernel
theorem dX7_readGale_69 : decode cX7_readGale 69 = .ok (.getfield 41, 3) := by decide +kernel
theorem dX7_readGale_72 : decode cX7_readGale 72 = .ok (.iastore, 1) := by decide +kernel
theorem dX7_readGale_73 : decode cX7_readGale 73 = .ok (.aload_n 0, 1) := by decide +kernel
theorem dX7_readGale_74 : decode cX7_readGale 74 = .ok (.iconst 1, 1) := by decide +kernel
theorem dX7_readGale_75 : decode cX7_readGale 75 = .ok (.bipush 99, 2) := by decide +kernel
theorem dX7_readGale_77 : decode cX7_readGale 77 = .ok (.invokevirtual 167, 3) := by decide +kernel
theorem dX7_readGale_80 : decode cX7_readGale 80 = .ok (.ifCond .ne 5, 3) := by decide +kernel
theorem dX7_readGale_83 : decode cX7_readGale 83 = .ok (.iconst 0, 1) := by decide +kernel
theorem dX7_readGale_84 : decode cX7_readGale 84 = .ok (.ireturn, 1) := by decide +kernel
theorem dX7_readGale_85 : decode cX7_readGale 85 = .ok (.aload_n 0, 1) := by decide +kernel
theorem dX7_readGale_86 : decode cX7_readGale 86 = .ok (.getfield 76, 3) := by decide +kernel
theorem dX7_readGale_89 : decode cX7_readGale 89 = .ok (.getfield 235, 3) := by decide +kernel
theorem dX7_readGale_92 : decode cX7_readGale 92 = .ok (.iload_n 2, 1) := by decide +kernel
theorem dX7_readGale_93 : decode cX7_readGale 93 = .ok (.aload_n 0, 1) := by decide +kernel
theorem dX7_readGale_94 : decode cX7_readGale 94 = .ok (.getfield 41, 3) := by decide +kernel
theorem dX7_readGale_97 : decode cX7_readGale 97 = .ok (.iastore, 1) := by decide +kernel
theorem dX7_readGale_98 : decode cX7_readGale 98 = .ok (.aload_n 0, 1) := by decide +kernel
theorem dX7_readGale_99 : decode cX7_readGale 99 = .ok (.getfield 76, 3) := by decide +kernel
theorem dX7_readGale_102 : decode cX7_readGale 102 = .ok (.dup, 1) := by decide +kernel
theorem dX7_readGale_103 : decode cX7_readGale 103 = .ok (.getfield 226, 3) := by decide +kernel
theorem dX7_readGale_106 : decode cX7_readGale 106 = .ok (.iconst 1, 1) := by decide +kernel
theorem dX7_readGale_107 : decode cX7_readGale 107 = .ok (.iadd, 1) := by decide +kernel
theorem dX7_readGale_108 : decode cX7_readGale 108 = .ok (.putfield 226, 3) := by decide +kernel
theorem dX7_readGale_111 : decode cX7_readGale 111 = .ok (.iconst 1, 1) := by decide +kernel
theorem dX7_readGale_112 : decode cX7_readGale 112 = .ok (.ireturn, 1) := by decide +kernel
noncomputable def b_X7_readGale_0 (rec : Rk) (x1 : Int) (h : Hp) : Option (Int × Hp) :=
  rf (gR h 7 0 1) 0 fun j1 =>
  lt (gI h 0 j1 10) fun z2 =>
  if z2 < 0 then (
    rec 1 [x1] h
  ) else (
    if z2 < 4 then (
      bd (f_X7_readNumber 0 59 h) fun v3 h4 =>
      if v3 = 0 then (
        some (0, h4)
      ) else (
        rf (gR h4 7 0 1) 0 fun j5 =>
        ck (0 ≤ z2 ∧ z2 < 4) <|
        lt (sI h4 22 j5 z2 (gI h4 7 0 11)) fun h6 =>
        bd (f_X7_readNumber 0 3 h6) fun v7 h8 =>
        if v7 = 0 then (
          some (0, h8)
        ) else (
          rf (gR h8 7 0 1) 0 fun j9 =>
          ck (0 ≤ z2 ∧ z2 < 4) <|
          lt (sI h8 23 j9 z2 (gI h8 7 0 11)) fun h10 =>
          bd (f_X7_readNumber 1 99 h10) fun v11 h12 =>
          if v11 = 0 then (
            some (0, h12)
          ) else (
            rf (gR h12 7 0 1) 0 fun j13 =>
            ck (0 ≤ z2 ∧ z2 < 4) <|
            lt (sI h12 24 j13 z2 (gI h12 7 0 11)) fun h14 =>
            rf (gR h14 7 0 1) 0 fun j15 =>
            ck (-2147483648 ≤ (gI h14 0 j15 10) + 1 ∧ (gI h14 0 j15 10) + 1 < 2147483648) <|
            lt (sI h14 0 j15 10 ((gI h14 0 j15 10) + 1)) fun h16 =>
            some (1, h16)
          )
        )
      )
    ) else (
      rec 1 [x1] h
    )
  )
noncomputable def b_X7_readGale_1 (rec : Rk) (x1 : Int) (h : Hp) : Option (Int × Hp) :=
  bd (f_X7_wrong 2 x1 h) fun v1 h2 =>
  ck (0 ≤ v1 ∧ v1 < 2) <|
  some (v1, h2)
noncomputable def g_X7_readGale (n : Nat) : Rk := Nat.rec (motive := fun _ => Rk) (fun _ _ _ => none) (fun _ rec k l h => if k = 0 then b_X7_readGale_0 rec (l.getD 0 0) h else if k = 1 then b_X7_readGale_1 rec (l.getD 0 0) h else none) n
noncomputable def f_X7_readGale (x1 : Int) (h : Hp) : Option (Int × Hp) := g_X7_readGale FU 0 [x1] h
set_option maxHeartbeats 4000000 in
set_option maxRecDepth 100000 in
theorem t_X7_readGale_0 (E : xE) (d : Nat) (rec : Rk) (r : Int × Hp) (hr_17 : ∀ (x1 : Int) (h : Hp), Lay h → rec 1 [x1] h = some r → X E mX7_readGale (d + 3) (0, 0) (0, 0) 17 [some (xr 7 0), some (xi x1), none] [] h (PoI r)) (x1 : Int) (h : Hp) (hL : Lay h) (hF : b_X7_readGale_0 rec x1 h = some r) : X E mX7_readGale (d + 3) (0, 0) (0, 0) 0 [some (xr 7 0), some (xi x1), none] [] h (PoI r) := by
  unfold b_X7_readGale_0 at hF
  refine x_aload_n (i := 0) (b := 1) dX7_readGale_0 rfl rfl rfl ?_
  obtain ⟨j1, e_j1, hF⟩ := rf_e hF
  refine x_getR (v := some (0, j1)) (b := 4) fk_X7_76 dX7_readGale_1 rfl e_j1 rfl ?_
  refine x_getI (v := gI h 0 j1 10) (b := 7) fk_X7_226 dX7_readGale_4 (by decide) rfl rfl ?_
  obtain ⟨z2, e_z2, hF⟩ := lt_e hF
  refine x_eq (y := z2) e_z2 ?_
  refine x_istore_n (i := 2) (b := 8) (ls2 := [some (xr 7 0), some (xi x1), some (xi z2)]) dX7_readGale_7 rfl (Nat.le_of_ble_eq_true rfl) rfl rfl ?_
  refine x_iload_n (i := 2) (b := 9) dX7_readGale_8 rfl rfl rfl ?_
  refine x_if_lt (tgt := 17) (b := 12) dX7_readGale_9 (by decide) rfl (fun hc => ?_) (fun hc => ?_)
  · replace hF := br_T hc hF
    exact x_dp (ls2 := [some (xr 7 0), some (xi x1), none]) ⟨rfl, rfl, trivial⟩ (hr_17 x1 h hL hF)
  · replace hF := br_F hc hF
    refine x_iload_n (i := 2) (b := 13) dX7_readGale_12 rfl rfl rfl ?_
    refine x_iconst (n := 4) (b := 14) dX7_readGale_13 (by decide) rfl ?_
    refine x_icmp_lt (tgt := 24) (b := 17) dX7_readGale_14 (by decide) rfl (fun hc => ?_) (fun hc => ?_)
    · replace hF := br_T hc hF
      refine x_aload_n (i := 0) (b := 25) dX7_readGale_24 rfl rfl rfl ?_
      refine x_iconst (n := 0) (b := 26) dX7_readGale_25 (by decide) rfl ?_
      refine x_bipush (n := 59) (b := 28) dX7_readGale_26 (by decide) rfl ?_
      obtain ⟨v3, h4, hq, hF⟩ := bd_e hF
      refine x_callV (as := [xi 0, xi 59]) (rest := []) (b := 31) (c_X7_readNumber d 0 59 h _ hL hq) dX7_readGale_28 cw_X7_167 ⟨_, _, rfl, Nat.le_of_ble_eq_true rfl⟩ rfl rfl (Nat.le_of_ble_eq_true rfl) ⟨Nat.le_refl _, Nat.le_refl _⟩ rfl (fun rv hh hp _ => ?_)
      obtain ⟨rfl, rfl, hL⟩ := hp
      refine x_if_ne (tgt := 36) (b := 34) dX7_readGale_31 (by decide) rfl (fun hc => ?_) (fun hc => ?_)
      · replace hF := br_F hc hF
        refine x_aload_n (i := 0) (b := 37) dX7_readGale_36 rfl rfl rfl ?_
        obtain ⟨j5, e_j5, hF⟩ := rf_e hF
        refine x_getR (v := some (0, j5)) (b := 40) fk_X7_76 dX7_readGale_37 rfl e_j5 rfl ?_
        refine x_getL (j := j5) (t := (22, 0, true)) (b := 43) fk_X7_229 dX7_readGale_40 rfl hL rfl rfl rfl ?_
        refine x_iload_n (i := 2) (b := 44) dX7_readGale_43 rfl rfl rfl ?_
        refine x_aload_n (i := 0) (b := 45) dX7_readGale_44 rfl rfl rfl ?_
        refine x_getI (v := gI h4 7 0 11) (b := 48) fk_X7_41 dX7_readGale_45 (by decide) rfl rfl ?_
        obtain ⟨hs, hF⟩ := ck_e hF
        have hs1 := hs
        refine x_iast (b := 49) ak_22 dX7_readGale_48 hs1 rfl ?_
        obtain ⟨h6, e_h6, hF⟩ := lt_e hF
        refine x_hp (h2 := h6) e_h6 ?_
        replace hL : Lay h6 := by rw [← e_h6]; exact hL
        refine x_aload_n (i := 0) (b := 50) dX7_readGale_49 rfl rfl rfl ?_
        refine x_iconst (n := 0) (b := 51) dX7_readGale_50 (by decide) rfl ?_
        refine x_iconst (n := 3) (b := 52) dX7_readGale_51 (by decide) rfl ?_
        obtain ⟨v7, h8, hq, hF⟩ := bd_e hF
        refine x_callV (as := [xi 0, xi 3]) (rest := []) (b := 55) (c_X7_readNumber d 0 3 h6 _ hL hq) dX7_readGale_52 cw_X7_167 ⟨_, _, rfl, Nat.le_of_ble_eq_true rfl⟩ rfl rfl (Nat.le_of_ble_eq_true rfl) ⟨Nat.le_refl _, Nat.le_refl _⟩ rfl (fun rv hh hp _ => ?_)
        obtain ⟨rfl, rfl, hL⟩ := hp
        refine x_if_ne (tgt := 60) (b := 58) dX7_readGale_55 (by decide) rfl (fun hc => ?_) (fun hc => ?_)
        · replace hF := br_F hc hF
          refine x_aload_n (i := 0) (b := 61) dX7_readGale_60 rfl rfl rfl ?_
          obtain ⟨j9, e_j9, hF⟩ := rf_e hF
          refine x_getR (v := some (0, j9)) (b := 64) fk_X7_76 dX7_readGale_61 rfl e_j9 rfl ?_
          refine x_getL (j := j9) (t := (23, 0, true)) (b := 67) fk_X7_232 dX7_readGale_64 rfl hL rfl rfl rfl ?_
          refine x_iload_n (i := 2) (b := 68) dX7_readGale_67 rfl rfl rfl ?_
          refine x_aload_n (i := 0) (b := 69) dX7_readGale_68 rfl rfl rfl ?_
          refine x_getI (v := gI h8 7 0 11) (b := 72) fk_X7_41 dX7_readGale_69 (by decide) rfl rfl ?_
          obtain ⟨hs, hF⟩ := ck_e hF
          have hs1 := hs
          refine x_iast (b := 73) ak_23 dX7_readGale_72 hs1 rfl ?_
          obtain ⟨h10, e_h10, hF⟩ := lt_e hF
          refine x_hp (h2 := h10) e_h10 ?_
          replace hL : Lay h10 := by rw [← e_h10]; exact hL
          refine x_aload_n (i := 0) (b := 74) dX7_readGale_73 rfl rfl rfl ?_
          refine x_iconst (n := 1) (b := 75) dX7_readGale_74 (by decide) rfl ?_
          refine x_bipush (n := 99) (b := 77) dX7_readGale_75 (by decide) rfl ?_
          obtain ⟨v11, h12, hq, hF⟩ := bd_e hF
          refine x_callV (as := [xi 1, xi 99]) (rest := []) (b := 80) (c_X7_readNumber d 1 99 h10 _ hL hq) dX7_readGale_77 cw_X7_167 ⟨_, _, rfl, Nat.le_of_ble_eq_true rfl⟩ rfl rfl (Nat.le_of_ble_eq_true rfl) ⟨Nat.le_refl _, Nat.le_refl _⟩ rfl (fun rv hh hp _ => ?_)
          obtain ⟨rfl, rfl, hL⟩ := hp
          refine x_if_ne (tgt := 85) (b := 83) dX7_readGale_80 (by decide) rfl (fun hc => ?_) (fun hc => ?_)
          · replace hF := br_F hc hF
            refine x_aload_n (i := 0) (b := 86) dX7_readGale_85 rfl rfl rfl ?_
            obtain ⟨j13, e_j13, hF⟩ := rf_e hF
            refine x_getR (v := some (0, j13)) (b := 89) fk_X7_76 dX7_readGale_86 rfl e_j13 rfl ?_
            refine x_getL (j := j13) (t := (24, 0, true)) (b := 92) fk_X7_235 dX7_readGale_89 rfl hL rfl rfl rfl ?_
            refine x_iload_n (i := 2) (b := 93) dX7_readGale_92 rfl rfl rfl ?_
            refine x_aload_n (i := 0) (b := 94) dX7_readGale_93 rfl rfl rfl ?_
            refine x_getI (v := gI h12 7 0 11) (b := 97) fk_X7_41 dX7_readGale_94 (by decide) rfl rfl ?_
            obtain ⟨hs, hF⟩ := ck_e hF
            have hs1 := hs
            refine x_iast (b := 98) ak_24 dX7_readGale_97 hs1 rfl ?_
            obtain ⟨h14, e_h14, hF⟩ := lt_e hF
            refine x_hp (h2 := h14) e_h14 ?_
            replace hL : Lay h14 := by rw [← e_h14]; exact hL
            refine x_aload_n (i := 0) (b := 99) dX7_readGale_98 rfl rfl rfl ?_
            obtain ⟨j15, e_j15, hF⟩ := rf_e hF
            refine x_getR (v := some (0, j15)) (b := 102) fk_X7_76 dX7_readGale_99 rfl e_j15 rfl ?_
            refine x_dup (b := 103) dX7_readGale_102 rfl rfl ?_
            refine x_getI (v := gI h14 0 j15 10) (b := 106) fk_X7_226 dX7_readGale_103 (by decide) rfl rfl ?_
            refine x_iconst (n := 1) (b := 107) dX7_readGale_106 (by decide) rfl ?_
            obtain ⟨hs, hF⟩ := ck_e hF
            refine x_iadd (b := 108) dX7_readGale_107 hs rfl ?_
            refine x_putI (b := 111) fk_X7_226 dX7_readGale_108 rfl rfl 10 rfl ?_
            obtain ⟨h16, e_h16, hF⟩ := lt_e hF
            refine x_hp (h2 := h16) e_h16 ?_
            replace hL : Lay h16 := by rw [← e_h16]; exact hL
            refine x_iconst (n := 1) (b := 112) dX7_readGale_111 (by decide) rfl ?_
            refine x_zreturn dX7_readGale_112 rfl ⟨Nat.le_refl _, Nat.le_refl _⟩ (by decide) ?_
            cases hF
            exact ⟨rfl, rfl, hL⟩
          · replace hF := br_T hc hF
            refine x_iconst (n := 0) (b := 84) dX7_readGale_83 (by decide) rfl ?_
            refine x_zreturn dX7_readGale_84 rfl ⟨Nat.le_refl _, Nat.le_refl _⟩ (by decide) ?_
            cases hF
            exact ⟨rfl, rfl, hL⟩
        · replace hF := br_T hc hF
          refine x_iconst (n := 0) (b := 59) dX7_readGale_58 (by decide) rfl ?_
          refine x_zreturn dX7_readGale_59 rfl ⟨Nat.le_refl _, Nat.le_refl _⟩ (by decide) ?_
          cases hF
          exact ⟨rfl, rfl, hL⟩
      · replace hF := br_T hc hF
        refine x_iconst (n := 0) (b := 35) dX7_readGale_34 (by decide) rfl ?_
        refine x_zreturn dX7_readGale_35 rfl ⟨Nat.le_refl _, Nat.le_refl _⟩ (by decide) ?_
        cases hF
        exact ⟨rfl, rfl, hL⟩
    · replace hF := br_F hc hF
      exact x_dp (ls2 := [some (xr 7 0), some (xi x1), none]) ⟨rfl, rfl, trivial⟩ (hr_17 x1 h hL hF)
set_option maxHeartbeats 4000000 in
set_option maxRecDepth 100000 in
theorem t_X7_readGale_1 (E : xE) (d : Nat) (rec : Rk) (r : Int × Hp) (x1 : Int) (h : Hp) (hL : Lay h) (hF : b_X7_readGale_1 rec x1 h = some r) : X E mX7_readGale (d + 3) (0, 0) (0, 0) 17 [some (xr 7 0), some (xi x1), none] [] h (PoI r) := by
  unfold b_X7_readGale_1 at hF
  refine x_aload_n (i := 0) (b := 18) dX7_readGale_17 rfl rfl rfl ?_
  refine x_iconst (n := 2) (b := 19) dX7_readGale_18 (by decide) rfl ?_
  refine x_iload_n (i := 1) (b := 20) dX7_readGale_19 rfl rfl rfl ?_
  obtain ⟨v1, h2, hq, hF⟩ := bd_e hF
  refine x_callV (as := [xi 2, xi x1]) (rest := []) (b := 23) (c_X7_wrong (d + 1) 2 x1 h _ hL hq) dX7_readGale_20 cw_X7_149 ⟨_, _, rfl, Nat.le_of_ble_eq_true rfl⟩ rfl rfl (Nat.le_of_ble_eq_true rfl) ⟨Nat.le_refl _, Nat.le_refl _⟩ rfl (fun rv hh hp _ => ?_)
  obtain ⟨rfl, rfl, hL⟩ := hp
  obtain ⟨hs, hF⟩ := ck_e hF
  refine x_zreturn dX7_readGale_23 rfl ⟨Nat.le_refl _, Nat.le_refl _⟩ hs ?_
  cases hF
  exact ⟨rfl, rfl, hL⟩
set_option maxHeartbeats 4000000 in
set_option maxRecDepth 100000 in
theorem u_X7_readGale (E : xE) (d : Nat) (r : Int × Hp) : ∀ n : Nat, (∀ (x1 : Int) (h : Hp), Lay h → g_X7_readGale n 0 [x1] h = some r → X E mX7_readGale (d + 3) (0, 0) (0, 0) 0 [some (xr 7 0), some (xi x1), none] [] h (PoI r)) ∧ (∀ (x1 : Int) (h : Hp), Lay h → g_X7_readGale n 1 [x1] h = some r → X E mX7_readGale (d + 3) (0, 0) (0, 0) 17 [some (xr 7 0), some (xi x1), none] [] h (PoI r)) := by
  intro n
  induction n with
  | zero => exact ⟨fun _ _ _ hF => no_e (r := r) hF, fun _ _ _ hF => no_e (r := r) hF⟩
  | succ n ih => exact ⟨fun x1 h hL hF => t_X7_readGale_0 E d (g_X7_readGale n) r ih.2 x1 h hL hF, fun x1 h hL hF => t_X7_readGale_1 E d (g_X7_readGale n) r  x1 h hL hF⟩
theorem c_X7_readGale (d : Nat) (x1 : Int) (h : Hp) (r : Int × Hp) (hL : Lay h) (hF : f_X7_readGale x1 h = some r) : Sp mX7_readGale (d + 3) (0, 0) [xr 7 0, xi x1] h (PoI r) :=
  sp_of (by decide) rfl (Nat.le_of_ble_eq_true rfl) (ls := [some (xr 7 0), some (xi x1), none]) rfl (fun E _ => (u_X7_readGale E d r FU).1 x1 h hL hF)
theorem dX7_readIsle_0 : decode cX7_readIsle 0 = .ok (.aload_n 0, 1) := by decide +kernel
theorem dX7_readIsle_1 : decode cX7_readIsle 1 = .ok (.getfield 76, 3) := by decide +kernel
theorem dX7_readIsle_4 : decode cX7_readIsle 4 = .ok (.getfield 158, 3) := by decide +kernel
theorem dX7_readIsle_7 : decode cX7_readIsle 7 = .ok (.astore_n 2, 1) := by decide +kernel
theorem dX7_readIsle_8 : decode cX7_readIsle 8 = .ok (.aload_n 2, 1) := by decide +kernel
theorem dX7_readIsle_9 : decode cX7_readIsle 9 = .ok (.getfield 201, 3) := by decide +kernel
theorem dX7_readIsle_12 : decode cX7_readIsle 12 = .ok (.istore_n 3, 1) := by decide +kernel
theorem dX7_readIsle_13 : decode cX7_readIsle 13 = .ok (.iload_n 3, 1) := by decide +kernel
theorem dX7_readIsle_14 : decode cX7_readIsle 14 = .ok (.ifCond .lt 8, 3) := by decide +kernel
theorem dX7_readIsle_17 : decode cX7_readIsle 17 = .ok (.iload_n 3, 1) := by decide +kernel
theorem dX7_readIsle_18 : decode cX7_readIsle 18 = .ok (.iconst 3, 1) := by decide +kernel
theorem dX7_readIsle_19 : decode cX7_readIsle 19 = .ok (.if_icmp .lt 10, 3) := by decide +kernel
theorem dX7_readIsle_22 : decode cX7_readIsle 22 = .ok (.aload_n 0, 1) := by decide +kernel
theorem dX7_readIsle_23 : decode cX7_readIsle 23 = .ok (.iconst 2, 1) := by decide +kernel
theorem dX7_readIsle_24 : decode cX7_readIsle 24 = .ok (.iload_n 1, 1) := by decide +kernel
theorem dX7_readIsle_25 : decode cX7_readIsle 25 = .ok (.invokevirtual 149, 3) := by decide +kernel
theorem dX7_readIsle_28 : decode cX7_readIsle 28 = .ok (.ireturn, 1) := by decide +kernel
theorem dX7_readIsle_29 : decode cX7_readIsle 29 = .ok (.aload_n 0, 1) := by decide +kernel
theorem dX7_readIsle_30 : decode cX7_readIsle 30 = .ok (.getfield 26, 3) := by decide +kernel
theorem dX7_readIsle_33 : decode cX7_readIsle 33 = .ok (.iconst 1, 1) := by decide +kernel
theorem dX7_readIsle_34 : decode cX7_readIsle 34 = .ok (.if_icmp .eq 13, 3) := by decide +kernel
theorem dX7_readIsle_37 : decode cX7_readIsle 37 = .ok (.aload_n 0, 1) := by decide +kernel
theorem dX7_readIsle_38 : decode cX7_readIsle 38 = .ok (.iconst 1, 1) := by decide +kernel
theorem dX7_readIsle_39 : decode cX7_readIsle 39 = .ok (.aload_n 0, 1) := by decide +kernel
theorem dX7_readIsle_40 : decode cX7_readIsle 40 = .ok (.getfield 29, 3) := by decide +kernel
theorem dX7_readIsle_43 : decode cX7_readIsle 43 = .ok (.invokevirtual 149, 3) := by decide +kernel
theorem dX7_readIsle_46 : decode cX7_readIsle 46 = .ok (.ireturn, 1) := by decide +kernel
theorem dX7_readIsle_47 : decode cX7_readIsle 47 = .ok (.aload_n 2, 1) := by decide +kernel
theorem dX7_readIsle_48 : decode cX7_readIsle 48 = .ok (.aload_n 0, 1) := by decide +kernel
theorem dX7_readIsle_49 : decode cX7_readIsle 49 = .ok (.getfield 32, 3) := by decide +kernel
theorem dX7_readIsle_52 : decode cX7_readIsle 52 = .ok (.invokevirtual 204, 3) := by decide +kernel
theorem dX7_readIsle_55 : decode cX7_readIsle 55 = .ok (.iconst (-1), 1) := by decide +kernel
theorem dX7_readIsle_56 : decode cX7_readIsle 56 = .ok (.if_icmp .eq 13, 3) := by decide +kernel
theorem dX7_readIsle_59 : decode cX7_readIsle 59 = .ok (.aload_n 0, 1) := by decide +kernel
theorem dX7_readIsle_60 : decode cX7_readIsle 60 = .ok (.iconst 3, 1) := by decide +kernel
theorem dX7_readIsle_61 : decode cX7_readIsle 61 = .ok (.aload_n 0, 1) := by decide +kernel
theorem dX7_readIsle_62 : decode cX7_readIsle 62 = .ok (.getfield 29, 3) := by decide +kernel
theorem dX7_readIsle_65 : decode cX7_readIsle 65 = .ok (.invokevirtual 149, 3) := by decide +kernel
theorem dX7_readIsle_68 : decode cX7_readIsle 68 = .ok (.ireturn, 1) := by decide +kernel
theorem dX7_readIsle_69 : decode cX7_readIsle 69 = .ok (.aload_n 2, 1) := by decide +kernel
theorem dX7_readIsle_70 : decode cX7_readIsle 70 = .ok (.getfield 208, 3) := by decide +kernel
theorem dX7_readIsle_73 : decode cX7_readIsle 73 = .ok (.iload_n 3, 1) := by decide +kernel
theorem dX7_readIsle_74 : decode cX7_readIsle 74 = .ok (.aload_n 0, 1) := by decide +kernel
theorem dX7_readIsle_75 : decode cX7_readIsle 75 = .ok (.getfield 32, 3) := by decide +kernel
theorem dX7_readIsle_78 : decode cX7_readIsle 78 = .ok (.iastore, 1) := by decide +kernel
theorem dX7_readIsle_79 : decode cX7_readIsle 79 = .ok (.aload_n 0, 1) := by decide +kernel
theorem dX7_readIsle_80 : decode cX7_readIsle 80 = .ok (.invokevirtual 89, 3) := by decide +kernel
theorem dX7_readIsle_83 : decode cX7_readIsle 83 = .ok (.aload_n 0, 1) := by decide +kernel
theorem dX7_readIsle_84 : decode cX7_readIsle 84 = .ok (.invokevirtual 198, 3) := by decide +kernel
theorem dX7_readIsle_87 : decode cX7_readIsle 87 = .ok (.ifCond .ne 5, 3) := by decide +kernel
theorem dX7_readIsle_90 : decode cX7_readIsle 90 = .ok (.iconst 0, 1) := by decide +kernel
theorem dX7_readIsle_91 : decode cX7_readIsle 91 = .ok (.ireturn, 1) := by decide +kernel
theorem dX7_readIsle_92 : decode cX7_readIsle 92 = .ok (.aload_n 2, 1) := by decide +kernel
theorem dX7_readIsle_93 : decode cX7_readIsle 93 = .ok (.getfield 211, 3) := by decide +kernel
theorem dX7_readIsle_96 : decode cX7_readIsle 96 = .ok (.iload_n 3, 1) := by decide +kernel
theorem dX7_readIsle_97 : decode cX7_readIsle 97 = .ok (.aload_n 0, 1) := by decide +kernel
theorem dX7_readIsle_98 : decode cX7_readIsle 98 = .ok (.getfield 41, 3) := by decide +kernel
theorem dX7_readIsle_101 : decode cX7_readIsle 101 = .ok (.iastore, 1) := by decide +kernel
theorem dX7_readIsle_102 : decode cX7_readIsle 102 = .ok (.aload_n 0, 1) := by decide +kernel
theorem dX7_readIsle_103 : decode cX7_readIsle 103 = .ok (.iconst 0, 1) := by decide +kernel
theorem dX7_readIsle_104 : decode cX7_readIsle 104 = .ok (.bipush 9, 2) := by decide +kernel
theorem dX7_readIsle_106 : decode cX7_readIsle 106 = .ok (.invokevirtual 167, 3) := by decide +kernel
theorem dX7_readIsle_109 : decode cX7_readIsle 109 = .ok (.ifCond .ne 5, 3) := by decide +kernel
theorem dX7_readIsle_112 : decode cX7_readIsle 112 = .ok (.iconst 0, 1) := by decide +kernel
theorem dX7_readIsle_113 : decode cX7_readIsle 113 = .ok (.ireturn, 1) := by decide +kernel
theorem dX7_readIsle_114 : decode cX7_readIsle 114 = .ok (.aload_n 2, 1) := by decide +kernel
theorem dX7_readIsle_115 : decode cX7_readIsle 115 = .ok (.getfield 214, 3) := by decide +kernel
theorem dX7_readIsle_118 : decode cX7_readIsle 118 = .ok (.iload_n 3, 1) := by decide +kernel
theorem dX7_readIsle_119 : decode cX7_readIsle 119 = .ok (.aload_n 0, 1) := by decide +kernel
theorem dX7_readIsle_120 : decode cX7_readIsle 120 = .ok (.getfield 41, 3) := by decide +kernel
theorem dX7_readIsle_123 : decode cX7_readIsle 123 = .ok (.iastore, 1) := by decide +kernel
theorem dX7_readIsle_124 : decode cX7_readIsle 124 = .ok (.aload_n 0, 1) := by decide +kernel
theorem dX7_readIsle_125 : decode cX7_readIsle 125 = .ok (.iconst 1, 1) := by decide +kernel
theorem dX7_readIsle_126 : decode cX7_readIsle 126 = .ok (.bipush 9, 2) := by decide +kernel
theorem dX7_readIsle_128 : decode cX7_readIsle 128 = .ok (.invokevirtual 167, 3) := by decide +kernel
theorem dX7_readIsle_131 : decode cX7_readIsle 131 = .ok (.ifCond .ne 5, 3) := by decide +kernel
theorem dX7_readIsle_134 : decode cX7_readIsle 134 = .ok (.iconst 0, 1) := by decide +kernel
theorem dX7_readIsle_135 : decode cX7_readIsle 135 = .ok (.ireturn, 1) := by decide +kernel
theorem dX7_readIsle_136 : decode cX7_readIsle 136 = .ok (.aload_n 2, 1) := by decide +kernel
theorem dX7_readIsle_137 : decode cX7_readIsle 137 = .ok (.getfield 217, 3) := by decide +kernel
theorem dX7_readIsle_140 : decode cX7_readIsle 140 = .ok (.iload_n 3, 1) := by decide +kernel
theorem dX7_readIsle_141 : decode cX7_readIsle 141 = .ok (.aload_n 0, 1) := by decide +kernel
theorem dX7_readIsle_142 : decode cX7_readIsle 142 = .ok (.getfield 41, 3) := by decide +kernel
theorem dX7_readIsle_145 : decode cX7_readIsle 145 = .ok (.iastore, 1) := by decide +kernel
theorem dX7_readIsle_146 : decode cX7_readIsle 146 = .ok (.aload_n 0, 1) := by decide +kernel
theorem dX7_readIsle_147 : decode cX7_readIsle 147 = .ok (.dup, 1) := by decide +kernel
theorem dX7_readIsle_148 : decode cX7_readIsle 148 = .ok (.getfield 47, 3) := by decide +kernel
theorem dX7_readIsle_151 : decode cX7_readIsle 151 = .ok (.bipush 16, 2) := by decide +kernel
theorem dX7_readIsle_153 : decode cX7_readIsle 153 = .ok (.ior, 1) := by decide +kernel
theorem dX7_readIsle_154 : decode cX7_readIsle 154 = .ok (.putfield 47, 3) := by decide +kernel
theorem dX7_readIsle_157 : decode cX7_readIsle 157 = .ok (.aload_n 2, 1) := by decide +kernel
theorem dX7_readIsle_158 : decode cX7_readIsle 158 = .ok (.dup, 1) := by decide +kernel
theorem dX7_readIsle_159 : decode cX7_readIsle 159 = .ok (.getfield 201, 3) := by decide +kernel
theorem dX7_readIsle_162 : decode cX7_readIsle 162 = .ok (.iconst 1, 1) := by decide +kernel
theorem dX7_readIsle_163 : decode cX7_readIsle 163 = .ok (.iadd, 1) := by decide +kernel
theorem dX7_readIsle_164 : decode cX7_readIsle 164 = .ok (.putfield 201, 3) := by decide +kernel
theorem dX7_readIsle_167 : decode cX7_readIsle 167 = .ok (.iconst 1, 1) := by decide +kernel
theorem dX7_readIsle_168 : decode cX7_readIsle 168 = .ok (.ireturn, 1) := by decide +kernel
noncomputable def b_X7_readIsle_0 (rec : Rk) (x1 : Int) (h : Hp) : Option (Int × Hp) :=
  rf (gR h 7 0 1) 0 fun j1 =>
  lt (gI h 9 j1 6) fun z2 =>
  if z2 < 0 then (
    rec 1 [x1] h
  ) else (
    if z2 < 3 then (
      if (gI h 7 0 6) = 1 then (
        bd (f_X9_isleNamed j1 (gI h 7 0 8) h) fun v3 h4 =>
        if v3 = (-1) then (
          ck (0 ≤ z2 ∧ z2 < 3) <|
          lt (sI h4 51 j1 z2 (gI h4 7 0 8)) fun h5 =>
          bd (f_X7_advance h5) fun v6 h7 =>
          bd (f_X7_readCellOfWater h7) fun v8 h9 =>
          if v8 = 0 then (
            some (0, h9)
          ) else (
            ck (0 ≤ z2 ∧ z2 < 3) <|
            lt (sI h9 52 j1 z2 (gI h9 7 0 11)) fun h10 =>
            bd (f_X7_readNumber 0 9 h10) fun v11 h12 =>
            if v11 = 0 then (
              some (0, h12)
            ) else (
              ck (0 ≤ z2 ∧ z2 < 3) <|
              lt (sI h12 53 j1 z2 (gI h12 7 0 11)) fun h13 =>
              bd (f_X7_readNumber 1 9 h13) fun v14 h15 =>
              if v14 = 0 then (
                some (0, h15)
              ) else (
                ck (0 ≤ z2 ∧ z2 < 3) <|
                lt (sI h15 54 j1 z2 (gI h15 7 0 11)) fun h16 =>
                lt (sI h16 7 0 13 (bor (gI h16 7 0 13) 16)) fun h17 =>
                ck (-2147483648 ≤ (gI h17 9 j1 6) + 1 ∧ (gI h17 9 j1 6) + 1 < 2147483648) <|
                lt (sI h17 9 j1 6 ((gI h17 9 j1 6) + 1)) fun h18 =>
                some (1, h18)
              )
            )
          )
        ) else (
          bd (f_X7_wrong 3 (gI h4 7 0 7) h4) fun v19 h20 =>
          ck (0 ≤ v19 ∧ v19 < 2) <|
          some (v19, h20)
        )
      ) else (
        bd (f_X7_wrong 1 (gI h 7 0 7) h) fun v21 h22 =>
        ck (0 ≤ v21 ∧ v21 < 2) <|
        some (v21, h22)
      )
    ) else (
      rec 1 [x1] h
    )
  )
noncomputable def b_X7_readIsle_1 (rec : Rk) (x1 : Int) (h : Hp) : Option (Int × Hp) :=
  bd (f_X7_wrong 2 x1 h) fun v1 h2 =>
  ck (0 ≤ v1 ∧ v1 < 2) <|
  some (v1, h2)
noncomputable def g_X7_readIsle (n : Nat) : Rk := Nat.rec (motive := fun _ => Rk) (fun _ _ _ => none) (fun _ rec k l h => if k = 0 then b_X7_readIsle_0 rec (l.getD 0 0) h else if k = 1 then b_X7_readIsle_1 rec (l.getD 0 0) h else none) n
noncomputable def f_X7_readIsle (x1 : Int) (h : Hp) : Option (Int × Hp) := g_X7_readIsle FU 0 [x1] h
set_option maxHeartbeats 4000000 in
set_option maxRecDepth 100000 in
theorem t_X7_readIsle_0 (E : xE) (d : Nat) (rec : Rk) (r : Int × Hp) (hr_22 : ∀ (x1 : Int) (h : Hp), Lay h → rec 1 [x1] h = some r → X E mX7_readIsle (d + 5) (0, 0) (0, 0) 22 [some (xr 7 0), some (xi x1), none, none] [] h (PoI r)) (x1 : Int) (h : Hp) (hL : Lay h) (hF : b_X7_readIsle_0 rec x1 h = some r) : X E mX7_readIsle (d + 5) (0, 0) (0, 0) 0 [some (xr 7 0), some (xi x1), none, none] [] h (PoI r) := by
  unfold b_X7_readIsle_0 at hF
  refine x_aload_n (i := 0) (b := 1) dX7_readIsle_0 rfl rfl rfl ?_
  obtain ⟨j1, e_j1, hF⟩ := rf_e hF
  refine x_getR (v := some (0, j1)) (b := 4) fk_X7_76 dX7_readIsle_1 rfl e_j1 rfl ?_
  refine x_getL (j := j1) (t := (9, 0, true)) (b := 7) fk_X7_158 dX7_readIsle_4 rfl hL rfl rfl rfl ?_
  refine x_astore_n (i := 2) (b := 8) (ls2 := [some (xr 7 0), some (xi x1), some (xr 9 j1), none]) dX7_readIsle_7 rfl (Nat.le_of_ble_eq_true rfl) rfl rfl ?_
  refine x_aload_n (i := 2) (b := 9) dX7_readIsle_8 rfl rfl rfl ?_
  refine x_getI (v := gI h 9 j1 6) (b := 12) fk_X7_201 dX7_readIsle_9 (by decide) rfl rfl ?_
  obtain ⟨z2, e_z2, hF⟩ := lt_e hF
  refine x_eq (y := z2) e_z2 ?_
  refine x_istore_n (i := 3) (b := 13) (ls2 := [some (xr 7 0), some (xi x1), some (xr 9 j1), some (xi z2)]) dX7_readIsle_12 rfl (Nat.le_of_ble_eq_true rfl) rfl rfl ?_
  refine x_iload_n (i := 3) (b := 14) dX7_readIsle_13 rfl rfl rfl ?_
  refine x_if_lt (tgt := 22) (b := 17) dX7_readIsle_14 (by decide) rfl (fun hc => ?_) (fun hc => ?_)
  · replace hF := br_T hc hF
    exact x_dp (ls2 := [some (xr 7 0), some (xi x1), none, none]) ⟨rfl, rfl, trivial⟩ (hr_22 x1 h hL hF)
  · replace hF := br_F hc hF
    refine x_iload_n (i := 3) (b := 18) dX7_readIsle_17 rfl rfl rfl ?_
    refine x_iconst (n := 3) (b := 19) dX7_readIsle_18 (by decide) rfl ?_
    refine x_icmp_lt (tgt := 29) (b := 22) dX7_readIsle_19 (by decide) rfl (fun hc => ?_) (fun hc => ?_)
    · replace hF := br_T hc hF
      refine x_aload_n (i := 0) (b := 30) dX7_readIsle_29 rfl rfl rfl ?_
      refine x_getI (v := gI h 7 0 6) (b := 33) fk_X7_26 dX7_readIsle_30 (by decide) rfl rfl ?_
      refine x_iconst (n := 1) (b := 34) dX7_readIsle_33 (by decide) rfl ?_
      refine x_icmp_eq (tgt := 47) (b := 37) dX7_readIsle_34 (by decide) rfl (fun hc => ?_) (fun hc => ?_)
      · replace hF := br_T hc hF
        refine x_aload_n (i := 2) (b := 48) dX7_readIsle_47 rfl rfl rfl ?_
        refine x_aload_n (i := 0) (b := 49) dX7_readIsle_48 rfl rfl rfl ?_
        refine x_getI (v := gI h 7 0 8) (b := 52) fk_X7_32 dX7_readIsle_49 (by decide) rfl rfl ?_
        obtain ⟨v3, h4, hq, hF⟩ := bd_e hF
        refine x_callV (as := [xi (gI h 7 0 8)]) (rest := []) (b := 55) (c_X9_isleNamed (d + 3) j1 (gI h 7 0 8) h _ hL hq) dX7_readIsle_52 cw_X7_204 ⟨_, _, rfl, Nat.le_of_ble_eq_true rfl⟩ rfl rfl (Nat.le_of_ble_eq_true rfl) ⟨Nat.le_refl _, Nat.le_refl _⟩ rfl (fun rv hh hp _ => ?_)
        obtain ⟨rfl, rfl, hL⟩ := hp
        refine x_iconst (n := (-1)) (b := 56) dX7_readIsle_55 (by decide) rfl ?_
        refine x_icmp_eq (tgt := 69) (b := 59) dX7_readIsle_56 (by decide) rfl (fun hc => ?_) (fun hc => ?_)
        · replace hF := br_T hc hF
          refine x_aload_n (i := 2) (b := 70) dX7_readIsle_69 rfl rfl rfl ?_
          refine x_getL (j := j1) (t := (51, 0, true)) (b := 73) fk_X7_208 dX7_readIsle_70 rfl hL rfl rfl rfl ?_
          refine x_iload_n (i := 3) (b := 74) dX7_readIsle_73 rfl rfl rfl ?_
          refine x_aload_n (i := 0) (b := 75) dX7_readIsle_74 rfl rfl rfl ?_
          refine x_getI (v := gI h4 7 0 8) (b := 78) fk_X7_32 dX7_readIsle_75 (by decide) rfl rfl ?_
          obtain ⟨hs, hF⟩ := ck_e hF
          have hs1 := hs
          refine x_iast (b := 79) ak_51 dX7_readIsle_78 hs1 rfl ?_
          obtain ⟨h5, e_h5, hF⟩ := lt_e hF
          refine x_hp (h2 := h5) e_h5 ?_
          replace hL : Lay h5 := by rw [← e_h5]; exact hL
          refine x_aload_n (i := 0) (b := 80) dX7_readIsle_79 rfl rfl rfl ?_
          obtain ⟨v6, h7, hq, hF⟩ := bd_e hF
          refine x_callV (as := []) (rest := []) (b := 83) (c_X7_advance (d + 3) h5 _ hL hq) dX7_readIsle_80 cw_X7_89 ⟨_, _, rfl, Nat.le_of_ble_eq_true rfl⟩ rfl rfl (Nat.le_of_ble_eq_true rfl) ⟨Nat.le_refl _, Nat.le_refl _⟩ rfl (fun rv hh hp _ => ?_)
          obtain ⟨rfl, rfl, hL⟩ := hp
          refine x_aload_n (i := 0) (b := 84) dX7_readIsle_83 rfl rfl rfl ?_
          obtain ⟨v8, h9, hq, hF⟩ := bd_e hF
          refine x_callV (as := []) (rest := []) (b := 87) (c_X7_readCellOfWater d h7 _ hL hq) dX7_readIsle_84 cw_X7_198 ⟨_, _, rfl, Nat.le_of_ble_eq_true rfl⟩ rfl rfl (Nat.le_of_ble_eq_true rfl) ⟨Nat.le_refl _, Nat.le_refl _⟩ rfl (fun rv hh hp _ => ?_)
          obtain ⟨rfl, rfl, hL⟩ := hp
          refine x_if_ne (tgt := 92) (b := 90) dX7_readIsle_87 (by decide) rfl (fun hc => ?_) (fun hc => ?_)
          · replace hF := br_F hc hF
            refine x_aload_n (i := 2) (b := 93) dX7_readIsle_92 rfl rfl rfl ?_
            refine x_getL (j := j1) (t := (52, 0, true)) (b := 96) fk_X7_211 dX7_readIsle_93 rfl hL rfl rfl rfl ?_
            refine x_iload_n (i := 3) (b := 97) dX7_readIsle_96 rfl rfl rfl ?_
            refine x_aload_n (i := 0) (b := 98) dX7_readIsle_97 rfl rfl rfl ?_
            refine x_getI (v := gI h9 7 0 11) (b := 101) fk_X7_41 dX7_readIsle_98 (by decide) rfl rfl ?_
            obtain ⟨hs, hF⟩ := ck_e hF
            have hs1 := hs
            refine x_iast (b := 102) ak_52 dX7_readIsle_101 hs1 rfl ?_
            obtain ⟨h10, e_h10, hF⟩ := lt_e hF
            refine x_hp (h2 := h10) e_h10 ?_
            replace hL : Lay h10 := by rw [← e_h10]; exact hL
            refine x_aload_n (i := 0) (b := 103) dX7_readIsle_102 rfl rfl rfl ?_
            refine x_iconst (n := 0) (b := 104) dX7_readIsle_103 (by decide) rfl ?_
            refine x_bipush (n := 9) (b := 106) dX7_readIsle_104 (by decide) rfl ?_
            obtain ⟨v11, h12, hq, hF⟩ := bd_e hF
            refine x_callV (as := [xi 0, xi 9]) (rest := []) (b := 109) (c_X7_readNumber (d + 2) 0 9 h10 _ hL hq) dX7_readIsle_106 cw_X7_167 ⟨_, _, rfl, Nat.le_of_ble_eq_true rfl⟩ rfl rfl (Nat.le_of_ble_eq_true rfl) ⟨Nat.le_refl _, Nat.le_refl _⟩ rfl (fun rv hh hp _ => ?_)
            obtain ⟨rfl, rfl, hL⟩ := hp
            refine x_if_ne (tgt := 114) (b := 112) dX7_readIsle_109 (by decide) rfl (fun hc => ?_) (fun hc => ?_)
            · replace hF := br_F hc hF
              refine x_aload_n (i := 2) (b := 115) dX7_readIsle_114 rfl rfl rfl ?_
              refine x_getL (j := j1) (t := (53, 0, true)) (b := 118) fk_X7_214 dX7_readIsle_115 rfl hL rfl rfl rfl ?_
              refine x_iload_n (i := 3) (b := 119) dX7_readIsle_118 rfl rfl rfl ?_
              refine x_aload_n (i := 0) (b := 120) dX7_readIsle_119 rfl rfl rfl ?_
              refine x_getI (v := gI h12 7 0 11) (b := 123) fk_X7_41 dX7_readIsle_120 (by decide) rfl rfl ?_
              obtain ⟨hs, hF⟩ := ck_e hF
              have hs1 := hs
              refine x_iast (b := 124) ak_53 dX7_readIsle_123 hs1 rfl ?_
              obtain ⟨h13, e_h13, hF⟩ := lt_e hF
              refine x_hp (h2 := h13) e_h13 ?_
              replace hL : Lay h13 := by rw [← e_h13]; exact hL
              refine x_aload_n (i := 0) (b := 125) dX7_readIsle_124 rfl rfl rfl ?_
              refine x_iconst (n := 1) (b := 126) dX7_readIsle_125 (by decide) rfl ?_
              refine x_bipush (n := 9) (b := 128) dX7_readIsle_126 (by decide) rfl ?_
              obtain ⟨v14, h15, hq, hF⟩ := bd_e hF
              refine x_callV (as := [xi 1, xi 9]) (rest := []) (b := 131) (c_X7_readNumber (d + 2) 1 9 h13 _ hL hq) dX7_readIsle_128 cw_X7_167 ⟨_, _, rfl, Nat.le_of_ble_eq_true rfl⟩ rfl rfl (Nat.le_of_ble_eq_true rfl) ⟨Nat.le_refl _, Nat.le_refl _⟩ rfl (fun rv hh hp _ => ?_)
              obtain ⟨rfl, rfl, hL⟩ := hp
              refine x_if_ne (tgt := 136) (b := 134) dX7_readIsle_131 (by decide) rfl (fun hc => ?_) (fun hc => ?_)
              · replace hF := br_F hc hF
                refine x_aload_n (i := 2) (b := 137) dX7_readIsle_136 rfl rfl rfl ?_
                refine x_getL (j := j1) (t := (54, 0, true)) (b := 140) fk_X7_217 dX7_readIsle_137 rfl hL rfl rfl rfl ?_
                refine x_iload_n (i := 3) (b := 141) dX7_readIsle_140 rfl rfl rfl ?_
                refine x_aload_n (i := 0) (b := 142) dX7_readIsle_141 rfl rfl rfl ?_
                refine x_getI (v := gI h15 7 0 11) (b := 145) fk_X7_41 dX7_readIsle_142 (by decide) rfl rfl ?_
                obtain ⟨hs, hF⟩ := ck_e hF
                have hs1 := hs
                refine x_iast (b := 146) ak_54 dX7_readIsle_145 hs1 rfl ?_
                obtain ⟨h16, e_h16, hF⟩ := lt_e hF
                refine x_hp (h2 := h16) e_h16 ?_
                replace hL : Lay h16 := by rw [← e_h16]; exact hL
                refine x_aload_n (i := 0) (b := 147) dX7_readIsle_146 rfl rfl rfl ?_
                refine x_dup (b := 148) dX7_readIsle_147 rfl rfl ?_
                refine x_getI (v := gI h16 7 0 13) (b := 151) fk_X7_47 dX7_readIsle_148 (by decide) rfl rfl ?_
                refine x_bipush (n := 16) (b := 153) dX7_readIsle_151 (by decide) rfl ?_
                refine x_ior (b := 154) dX7_readIsle_153 rfl ?_
                refine x_putI (b := 157) fk_X7_47 dX7_readIsle_154 rfl rfl 13 rfl ?_
                obtain ⟨h17, e_h17, hF⟩ := lt_e hF
                refine x_hp (h2 := h17) e_h17 ?_
                replace hL : Lay h17 := by rw [← e_h17]; exact hL
                refine x_aload_n (i := 2) (b := 158) dX7_readIsle_157 rfl rfl rfl ?_
                refine x_dup (b := 159) dX7_readIsle_158 rfl rfl ?_
                refine x_getI (v := gI h17 9 j1 6) (b := 162) fk_X7_201 dX7_readIsle_159 (by decide) rfl rfl ?_
                refine x_iconst (n := 1) (b := 163) dX7_readIsle_162 (by decide) rfl ?_
                obtain ⟨hs, hF⟩ := ck_e hF
                refine x_iadd (b := 164) dX7_readIsle_163 hs rfl ?_
                refine x_putI (b := 167) fk_X7_201 dX7_readIsle_164 rfl rfl 6 rfl ?_
                obtain ⟨h18, e_h18, hF⟩ := lt_e hF
                refine x_hp (h2 := h18) e_h18 ?_
                replace hL : Lay h18 := by rw [← e_h18]; exact hL
                refine x_iconst (n := 1) (b := 168) dX7_readIsle_167 (by decide) rfl ?_
                refine x_zreturn dX7_readIsle_168 rfl ⟨Nat.le_refl _, Nat.le_refl _⟩ (by decide) ?_
                cases hF
                exact ⟨rfl, rfl, hL⟩
              · replace hF := br_T hc hF
                refine x_iconst (n := 0) (b := 135) dX7_readIsle_134 (by decide) rfl ?_
                refine x_zreturn dX7_readIsle_135 rfl ⟨Nat.le_refl _, Nat.le_refl _⟩ (by decide) ?_
                cases hF
                exact ⟨rfl, rfl, hL⟩
            · replace hF := br_T hc hF
              refine x_iconst (n := 0) (b := 113) dX7_readIsle_112 (by decide) rfl ?_
              refine x_zreturn dX7_readIsle_113 rfl ⟨Nat.le_refl _, Nat.le_refl _⟩ (by decide) ?_
              cases hF
              exact ⟨rfl, rfl, hL⟩
          · replace hF := br_T hc hF
            refine x_iconst (n := 0) (b := 91) dX7_readIsle_90 (by decide) rfl ?_
            refine x_zreturn dX7_readIsle_91 rfl ⟨Nat.le_refl _, Nat.le_refl _⟩ (by decide) ?_
            cases hF
            exact ⟨rfl, rfl, hL⟩
        · replace hF := br_F hc hF
          refine x_aload_n (i := 0) (b := 60) dX7_readIsle_59 rfl rfl rfl ?_
          refine x_iconst (n := 3) (b := 61) dX7_readIsle_60 (by decide) rfl ?_
          refine x_aload_n (i := 0) (b := 62) dX7_readIsle_61 rfl rfl rfl ?_
          refine x_getI (v := gI h4 7 0 7) (b := 65) fk_X7_29 dX7_readIsle_62 (by decide) rfl rfl ?_
          obtain ⟨v19, h20, hq, hF⟩ := bd_e hF
          refine x_callV (as := [xi 3, xi (gI h4 7 0 7)]) (rest := []) (b := 68) (c_X7_wrong (d + 3) 3 (gI h4 7 0 7) h4 _ hL hq) dX7_readIsle_65 cw_X7_149 ⟨_, _, rfl, Nat.le_of_ble_eq_true rfl⟩ rfl rfl (Nat.le_of_ble_eq_true rfl) ⟨Nat.le_refl _, Nat.le_refl _⟩ rfl (fun rv hh hp _ => ?_)
          obtain ⟨rfl, rfl, hL⟩ := hp
          obtain ⟨hs, hF⟩ := ck_e hF
          refine x_zreturn dX7_readIsle_68 rfl ⟨Nat.le_refl _, Nat.le_refl _⟩ hs ?_
          cases hF
          exact ⟨rfl, rfl, hL⟩
      · replace hF := br_F hc hF
        refine x_aload_n (i := 0) (b := 38) dX7_readIsle_37 rfl rfl rfl ?_
        refine x_iconst (n := 1) (b := 39) dX7_readIsle_38 (by decide) rfl ?_
        refine x_aload_n (i := 0) (b := 40) dX7_readIsle_39 rfl rfl rfl ?_
        refine x_getI (v := gI h 7 0 7) (b := 43) fk_X7_29 dX7_readIsle_40 (by decide) rfl rfl ?_
        obtain ⟨v21, h22, hq, hF⟩ := bd_e hF
        refine x_callV (as := [xi 1, xi (gI h 7 0 7)]) (rest := []) (b := 46) (c_X7_wrong (d + 3) 1 (gI h 7 0 7) h _ hL hq) dX7_readIsle_43 cw_X7_149 ⟨_, _, rfl, Nat.le_of_ble_eq_true rfl⟩ rfl rfl (Nat.le_of_ble_eq_true rfl) ⟨Nat.le_refl _, Nat.le_refl _⟩ rfl (fun rv hh hp _ => ?_)
        obtain ⟨rfl, rfl, hL⟩ := hp
        obtain ⟨hs, hF⟩ := ck_e hF
        refine x_zreturn dX7_readIsle_46 rfl ⟨Nat.le_refl _, Nat.le_refl _⟩ hs ?_
        cases hF
        exact ⟨rfl, rfl, hL⟩
    · replace hF := br_F hc hF
      exact x_dp (ls2 := [some (xr 7 0), some (xi x1), none, none]) ⟨rfl, rfl, trivial⟩ (hr_22 x1 h hL hF)
set_option maxHeartbeats 4000000 in
set_option maxRecDepth 100000 in
theorem t_X7_readIsle_1 (E : xE) (d : Nat) (rec : Rk) (r : Int × Hp) (x1 : Int) (h : Hp) (hL : Lay h) (hF : b_X7_readIsle_1 rec x1 h = some r) : X E mX7_readIsle (d + 5) (0, 0) (0, 0) 22 [some (xr 7 0), some (xi x1), none, none] [] h (PoI r) := by
  unfold b_X7_readIsle_1 at hF
  refine x_aload_n (i := 0) (b := 23) dX7_readIsle_22 rfl rfl rfl ?_
  refine x_iconst (n := 2) (b := 24) dX7_readIsle_23 (by decide) rfl ?_
  refine x_iload_n (i := 1) (b := 25) dX7_readIsle_24 rfl rfl rfl ?_
  obtain ⟨v1, h2, hq, hF⟩ := bd_e hF
  refine x_callV (as := [xi 2, xi x1]) (rest := []) (b := 28) (c_X7_wrong (d + 3) 2 x1 h _ hL hq) dX7_readIsle_25 cw_X7_149 ⟨_, _, rfl, Nat.le_of_ble_eq_true rfl⟩ rfl rfl (Nat.le_of_ble_eq_true rfl) ⟨Nat.le_refl _, Nat.le_refl _⟩ rfl (fun rv hh hp _ => ?_)
  obtain ⟨rfl, rfl, hL⟩ := hp
  obtain ⟨hs, hF⟩ := ck_e hF
  refine x_zreturn dX7_readIsle_28 rfl ⟨Nat.le_refl _, Nat.le_refl _⟩ hs ?_
  cases hF
  exact ⟨rfl, rfl, hL⟩
set_option maxHeartbeats 4000000 in
set_option maxRecDepth 100000 in
theorem u_X7_readIsle (E : xE) (d : Nat) (r : Int × Hp) : ∀ n : Nat, (∀ (x1 : Int) (h : Hp), Lay h → g_X7_readIsle n 0 [x1] h = some r → X E mX7_readIsle (d + 5) (0, 0) (0, 0) 0 [some (xr 7 0), some (xi x1), none, none] [] h (PoI r)) ∧ (∀ (x1 : Int) (h : Hp), Lay h → g_X7_readIsle n 1 [x1] h = some r → X E mX7_readIsle (d + 5) (0, 0) (0, 0) 22 [some (xr 7 0), some (xi x1), none, none] [] h (PoI r)) := by
  intro n
  induction n with
  | zero => exact ⟨fun _ _ _ hF => no_e (r := r) hF, fun _ _ _ hF => no_e (r := r) hF⟩
  | succ n ih => exact ⟨fun x1 h hL hF => t_X7_readIsle_0 E d (g_X7_readIsle n) r ih.2 x1 h hL hF, fun x1 h hL hF => t_X7_readIsle_1 E d (g_X7_readIsle n) r  x1 h hL hF⟩
theorem c_X7_readIsle (d : Nat) (x1 : Int) (h : Hp) (r : Int × Hp) (hL : Lay h) (hF : f_X7_readIsle x1 h = some r) : Sp mX7_readIsle (d + 5) (0, 0) [xr 7 0, xi x1] h (PoI r) :=
  sp_of (by decide) rfl (Nat.le_of_ble_eq_true rfl) (ls := [some (xr 7 0), some (xi x1), none, none]) rfl (fun E _ => (u_X7_readIsle E d r FU).1 x1 h hL hF)
