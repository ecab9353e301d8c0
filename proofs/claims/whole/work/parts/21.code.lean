theorem dX12_plans_0 : decode cX12_plans 0 = .ok (.aload_n 0, 1) := by decide +kernel
theorem dX12_plans_1 : decode cX12_plans 1 = .ok (.getfield 90, 3) := by decide +kernel
theorem dX12_plans_4 : decode cX12_plans 4 = .ok (.iconst 1, 1) := by decide +kernel
theorem dX12_plans_5 : decode cX12_plans 5 = .ok (.iaload, 1) := by decide +kernel
theorem dX12_plans_6 : decode cX12_plans 6 = .ok (.aload_n 0, 1) := by decide +kernel
theorem dX12_plans_7 : decode cX12_plans 7 = .ok (.getfield 13, 3) := by decide +kernel
theorem dX12_plans_10 : decode cX12_plans 10 = .ok (.iconst 4, 1) := by decide +kernel
theorem dX12_plans_11 : decode cX12_plans 11 = .ok (.iaload, 1) := by decide +kernel
theorem dX12_plans_12 : decode cX12_plans 12 = .ok (.if_icmp .ne 76, 3) := by decide +kernel
theorem dX12_plans_15 : decode cX12_plans 15 = .ok (.aload_n 0, 1) := by decide +kernel
theorem dX12_plans_16 : decode cX12_plans 16 = .ok (.getfield 471, 3) := by decide +kernel
theorem dX12_plans_19 : decode cX12_plans 19 = .ok (.iconst (-1), 1) := by decide +kernel
theorem dX12_plans_20 : decode cX12_plans 20 = .ok (.if_icmp .eq 28, 3) := by decide +kernel
theorem dX12_plans_23 : decode cX12_plans 23 = .ok (.iload_n 3, 1) := by decide +kernel
theorem dX12_plans_24 : decode cX12_plans 24 = .ok (.aload_n 0, 1) := by decide +kernel
theorem dX12_plans_25 : decode cX12_plans 25 = .ok (.getfield 471, 3) := by decide +kernel
theorem dX12_plans_28 : decode cX12_plans 28 = .ok (.if_icmp .gt 19, 3) := by decide +kernel
theorem dX12_plans_31 : decode cX12_plans 31 = .ok (.iload_n 3, 1) := by decide +kernel
theorem dX12_plans_32 : decode cX12_plans 32 = .ok (.aload_n 0, 1) := by decide +kernel
theorem dX12_plans_33 : decode cX12_plans 33 = .ok (.getfield 471, 3) := by decide +kernel
theorem dX12_plans_36 : decode cX12_plans 36 = .ok (.if_icmp .ne 12, 3) := by decide +kernel
theorem dX12_plans_39 : decode cX12_plans 39 = .ok (.iload_n 1, 1) := by decide +kernel
theorem dX12_plans_40 : decode cX12_plans 40 = .ok (.aload_n 0, 1) := by decide +kernel
theorem dX12_plans_41 : decode cX12_plans 41 = .ok (.getfield 474, 3) := by decide +kernel
theorem dX12_plans_44 : decode cX12_plans 44 = .ok (.if_icmp .lt 4, 3) := by decide +kernel
theorem dX12_plans_47 : decode cX12_plans 47 = .ok (.return_, 1) := by decide +kernel
theorem dX12_plans_48 : decode cX12_plans 48 = .ok (.aload_n 0, 1) := by decide +kernel
theorem dX12_plans_49 : decode cX12_plans 49 = .ok (.iload_n 3, 1) := by decide +kernel
theorem dX12_plans_50 : decode cX12_plans 50 = .ok (.putfield 471, 3) := by decide +kernel
theorem dX12_plans_53 : decode cX12_plans 53 = .ok (.aload_n 0, 1) := by decide +kernel
theorem dX12_plans_54 : decode cX12_plans 54 = .ok (.iload_n 1, 1) := by decide +kernel
theorem dX12_plans_55 : decode cX12_plans 55 = .ok (.putfield 474, 3) := by decide +kernel
theorem dX12_plans_58 : decode cX12_plans 58 = .ok (.iconst 0, 1) := by decide +kernel
theorem dX12_plans_59 : decode cX12_plans 59 = .ok (.istore 4, 2) := by decide +kernel
theorem dX12_plans_61 : decode cX12_plans 61 = .ok (.iload 4, 2) := by decide +kernel
theorem dX12_plans_63 : decode cX12_plans 63 = .ok (.iload_n 1, 1) := by decide +kernel
theorem dX12_plans_64 : decode cX12_plans 64 = .ok (.if_icmp .ge 23, 3) := by decide +kernel
theorem dX12_plans_67 : decode cX12_plans 67 = .ok (.aload_n 0, 1) := by decide +kernel
theorem dX12_plans_68 : decode cX12_plans 68 = .ok (.getfield 154, 3) := by decide +kernel
theorem dX12_plans_71 : decode cX12_plans 71 = .ok (.iload 4, 2) := by decide +kernel
theorem dX12_plans_73 : decode cX12_plans 73 = .ok (.aload_n 0, 1) := by decide +kernel
theorem dX12_plans_74 : decode cX12_plans 74 = .ok (.getfield 151, 3) := by decide +kernel
theorem dX12_plans_77 : decode cX12_plans 77 = .ok (.iload 4, 2) := by decide +kernel
theorem dX12_plans_79 : decode cX12_plans 79 = .ok (.iaload, 1) := by decide +kernel
theorem dX12_plans_80 : decode cX12_plans 80 = .ok (.iastore, 1) := by decide +kernel
theorem dX12_plans_81 : decode cX12_plans 81 = .ok (.iinc 4 1, 3) := by decide +kernel
theorem dX12_plans_84 : decode cX12_plans 84 = .ok (.goto (-23), 3) := by decide +kernel
theorem dX12_plans_87 : decode cX12_plans 87 = .ok (.return_, 1) := by decide +kernel
theorem dX12_plans_88 : decode cX12_plans 88 = .ok (.iload_n 1, 1) := by decide +kernel
theorem dX12_plans_89 : decode cX12_plans 89 = .ok (.iload_n 2, 1) := by decide +kernel
theorem dX12_plans_90 : decode cX12_plans 90 = .ok (.if_icmp .eq 19, 3) := by decide +kernel
theorem dX12_plans_93 : decode cX12_plans 93 = .ok (.aload_n 0, 1) := by decide +kernel
theorem dX12_plans_94 : decode cX12_plans 94 = .ok (.getfield 471, 3) := by decide +kernel
theorem dX12_plans_97 : decode cX12_plans 97 = .ok (.iconst (-1), 1) := by decide +kernel
theorem dX12_plans_98 : decode cX12_plans 98 = .ok (.if_icmp .eq 12, 3) := by decide +kernel
theorem dX12_plans_101 : decode cX12_plans 101 = .ok (.iload_n 3, 1) := by decide +kernel
theorem dX12_plans_102 : decode cX12_plans 102 = .ok (.aload_n 0, 1) := by decide +kernel
theorem dX12_plans_103 : decode cX12_plans 103 = .ok (.getfield 471, 3) := by decide +kernel
theorem dX12_plans_106 : decode cX12_plans 106 = .ok (.if_icmp .le 4, 3) := by decide +kernel
theorem dX12_plans_109 : decode cX12_plans 109 = .ok (.return_, 1) := by decide +kernel
theorem dX12_plans_110 : decode cX12_plans 110 = .ok (.aload_n 0, 1) := by decide +kernel
theorem dX12_plans_111 : decode cX12_plans 111 = .ok (.iload_n 1, 1) := by decide +kernel
theorem dX12_plans_112 : decode cX12_plans 112 = .ok (.invokevirtual 477, 3) := by decide +kernel
theorem dX12_plans_115 : decode cX12_plans 115 = .ok (.iconst 0, 1) := by decide +kernel
theorem dX12_plans_116 : decode cX12_plans 116 = .ok (.istore 4, 2) := by decide +kernel
theorem dX12_plans_118 : decode cX12_plans 118 = .ok (.iload 4, 2) := by decide +kernel
theorem dX12_plans_120 : decode cX12_plans 120 = .ok (.iconst 1, 1) := by decide +kernel
theorem dX12_plans_121 : decode cX12_plans 121 = .ok (.aload_n 0, 1) := by decide +kernel
theorem dX12_plans_122 : decode cX12_plans 122 = .ok (.getfield 13, 3) := by decide +kernel
theorem dX12_plans_125 : decode cX12_plans 125 = .ok (.bipush 12, 2) := by decide +kernel
theorem dX12_plans_127 : decode cX12_plans 127 = .ok (.iaload, 1) := by decide +kernel
theorem dX12_plans_128 : decode cX12_plans 128 = .ok (.ishl, 1) := by decide +kernel
theorem dX12_plans_129 : decode cX12_plans 129 = .ok (.if_icmp .ge 49, 3) := by decide +kernel
theorem dX12_plans_132 : decode cX12_plans 132 = .ok (.aload_n 0, 1) := by decide +kernel
theorem dX12_plans_133 : decode cX12_plans 133 = .ok (.iload_n 1, 1) := by decide +kernel
theorem dX12_plans_134 : decode cX12_plans 134 = .ok (.invokevirtual 479, 3) := by decide +kernel
theorem dX12_plans_137 : decode cX12_plans 137 = .ok (.aload_n 0, 1) := by decide +kernel
theorem dX12_plans_138 : decode cX12_plans 138 = .ok (.getfield 102, 3) := by decide +kernel
theorem dX12_plans_141 : decode cX12_plans 141 = .ok (.iconst 1, 1) := by decide +kernel
theorem dX12_plans_142 : decode cX12_plans 142 = .ok (.iload 4, 2) := by decide +kernel
theorem dX12_plans_144 : decode cX12_plans 144 = .ok (.iastore, 1) := by decide +kernel
theorem dX12_plans_145 : decode cX12_plans 145 = .ok (.aload_n 0, 1) := by decide +kernel
theorem dX12_plans_146 : decode cX12_plans 146 = .ok (.getfield 151, 3) := by decide +kernel
theorem dX12_plans_149 : decode cX12_plans 149 = .ok (.iload_n 1, 1) := by decide +kernel
theorem dX12_plans_150 : decode cX12_plans 150 = .ok (.iload 4, 2) := by decide +kernel
theorem dX12_plans_152 : decode cX12_plans 152 = .ok (.iastore, 1) := by decide +kernel
theorem dX12_plans_153 : decode cX12_plans 153 = .ok (.aload_n 0, 1) := by decide +kernel
theorem dX12_plans_154 : decode cX12_plans 154 = .ok (.iconst 1, 1) := by decide +kernel
theorem dX12_plans_155 : decode cX12_plans 155 = .ok (.invokevirtual 465, 3) := by decide +kernel
theorem dX12_plans_158 : decode cX12_plans 158 = .ok (.aload_n 0, 1) := by decide +kernel
theorem dX12_plans_159 : decode cX12_plans 159 = .ok (.iload_n 1, 1) := by decide +kernel
theorem dX12_plans_160 : decode cX12_plans 160 = .ok (.iconst 1, 1) := by decide +kernel
theorem dX12_plans_161 : decode cX12_plans 161 = .ok (.iadd, 1) := by decide +kernel
theorem dX12_plans_162 : decode cX12_plans 162 = .ok (.iload_n 2, 1) := by decide +kernel
theorem dX12_plans_163 : decode cX12_plans 163 = .ok (.iload_n 3, 1) := by decide +kernel
theorem dX12_plans_164 : decode cX12_plans 164 = .ok (.aload_n 0, 1) := by decide +kernel
theorem dX12_plans_165 : decode cX12_plans 165 = .ok (.getfield 419, 3) := by decide +kernel
theorem dX12_plans_168 : decode cX12_plans 168 = .ok (.iadd, 1) := by decide +kernel
theorem dX12_plans_169 : decode cX12_plans 169 = .ok (.invokevirtual 482, 3) := by decide +kernel
theorem dX12_plans_172 : decode cX12_plans 172 = .ok (.iinc 4 1, 3) := by decide +kernel
theorem dX12_plans_175 : decode cX12_plans 175 = .ok (.goto (-57), 3) := by decide +kernel
theorem dX12_plans_178 : decode cX12_plans 178 = .ok (.aload_n 0, 1) := by decide +kernel
theorem dX12_plans_179 : decode cX12_plans 179 = .ok (.iload_n 1, 1) := by decide +kernel
theorem dX12_plans_180 : decode cX12_plans 180 = .ok (.invokevirtual 479, 3) := by decide +kernel
theorem dX12_plans_183 : decode cX12_plans 183 = .ok (.return_, 1) := by decide +kernel
noncomputable def b_grpP_0 (rec : Rk) (x1 x2 x3 : Int) (h : Hp) : Option (Int × Hp) :=
  ck (0 ≤ (1 : Int) ∧ (1 : Int) < 23) <|
  ck (0 ≤ (4 : Int) ∧ (4 : Int) < 30) <|
  if (gI h 85 0 1) = (gI h 61 0 4) then (
    if (gI h 12 0 67) = (-1) then (
      rec 1 [x1, x3] h
    ) else (
      if (gI h 12 0 67) < x3 then (
        some (0, h)
      ) else (
        if x3 = (gI h 12 0 67) then (
          if x1 < (gI h 12 0 68) then (
            rec 1 [x1, x3] h
          ) else (
            some (0, h)
          )
        ) else (
          rec 1 [x1, x3] h
        )
      )
    )
  ) else (
    if x1 = x2 then (
      some (0, h)
    ) else (
      if (gI h 12 0 67) = (-1) then (
        rec 3 [x1, x2, x3] h
      ) else (
        if x3 ≤ (gI h 12 0 67) then (
          rec 3 [x1, x2, x3] h
        ) else (
          some (0, h)
        )
      )
    )
  )
noncomputable def b_grpP_1 (rec : Rk) (x1 x3 : Int) (h : Hp) : Option (Int × Hp) :=
  lt (sI h 12 0 67 x3) fun h1 =>
  lt (sI h1 12 0 68 x1) fun h2 =>
  rec 2 [x1, 0] h2
noncomputable def b_grpP_2 (rec : Rk) (x1 x4 : Int) (h : Hp) : Option (Int × Hp) :=
  if x1 ≤ x4 then (
    some (0, h)
  ) else (
    ck (0 ≤ x4 ∧ x4 < 3) <|
    ck (0 ≤ x4 ∧ x4 < 3) <|
    lt (sI h 104 0 x4 (gI h 103 0 x4)) fun h1 =>
    ck (-2147483648 ≤ x4 + 1 ∧ x4 + 1 < 2147483648) <|
    rec 2 [x1, x4 + 1] h1
  )
noncomputable def b_grpP_3 (rec : Rk) (x1 x2 x3 : Int) (h : Hp) : Option (Int × Hp) :=
  bd (f_X12_puts_ x1 h) fun v1 h2 =>
  rec 4 [x1, x2, x3, 0] h2
noncomputable def b_grpP_4 (rec : Rk) (x1 x2 x3 x4 : Int) (h : Hp) : Option (Int × Hp) :=
  ck (0 ≤ (12 : Int) ∧ (12 : Int) < 30) <|
  if (bshl 1 (gI h 61 0 12)) ≤ x4 then (
    bd (f_X12_takes x1 h) fun v1 h2 =>
    some (0, h2)
  ) else (
    bd (f_X12_takes x1 h) fun v3 h4 =>
    ck (0 ≤ (1 : Int) ∧ (1 : Int) < 23) <|
    lt (sI h4 89 0 1 x4) fun h5 =>
    ck (0 ≤ x1 ∧ x1 < 3) <|
    lt (sI h5 103 0 x1 x4) fun h6 =>
    bd (f_X12_passes 1 h6) fun v7 h8 =>
    ck (-2147483648 ≤ x1 + 1 ∧ x1 + 1 < 2147483648) <|
    ck (-2147483648 ≤ x3 + (gI h8 12 0 64) ∧ x3 + (gI h8 12 0 64) < 2147483648) <|
    bd (rec 0 [x1 + 1, x2, x3 + (gI h8 12 0 64)] h8) fun v9 h10 =>
    ck (-2147483648 ≤ x4 + 1 ∧ x4 + 1 < 2147483648) <|
    rec 4 [x1, x2, x3, x4 + 1] h10
  )
noncomputable def g_grpP (n : Nat) : Rk := Nat.rec (motive := fun _ => Rk) (fun _ _ _ => none) (fun _ rec k l h => if k = 0 then b_grpP_0 rec (l.getD 0 0) (l.getD 1 0) (l.getD 2 0) h else if k = 1 then b_grpP_1 rec (l.getD 0 0) (l.getD 1 0) h else if k = 2 then b_grpP_2 rec (l.getD 0 0) (l.getD 1 0) h else if k = 3 then b_grpP_3 rec (l.getD 0 0) (l.getD 1 0) (l.getD 2 0) h else if k = 4 then b_grpP_4 rec (l.getD 0 0) (l.getD 1 0) (l.getD 2 0) (l.getD 3 0) h else none) n
set_option maxHeartbeats 4000000 in
set_option maxRecDepth 100000 in
theorem t_grpP_0 (E : xE) (d : Nat) (rec : Rk) (r : Int × Hp) (hr_48 : ∀ (x1 x3 : Int) (h : Hp), Lay h → rec 1 [x1, x3] h = some r → X E mX12_plans (d + 8) (0, 0) (0, 0) 48 [some (xr 12 0), some (xi x1), none, some (xi x3), none] [] h (PoV r)) (hr_110 : ∀ (x1 x2 x3 : Int) (h : Hp), Lay h → rec 3 [x1, x2, x3] h = some r → X E mX12_plans (d + 8) (0, 0) (0, 0) 110 [some (xr 12 0), some (xi x1), some (xi x2), some (xi x3), none] [] h (PoV r)) (x1 x2 x3 : Int) (h : Hp) (hL : Lay h) (hF : b_grpP_0 rec x1 x2 x3 h = some r) : X E mX12_plans (d + 8) (0, 0) (0, 0) 0 [some (xr 12 0), some (xi x1), some (xi x2), some (xi x3), none] [] h (PoV r) := by
  unfold b_grpP_0 at hF
  refine x_aload_n (i := 0) (b := 1) dX12_plans_0 rfl rfl rfl ?_
  refine x_getL (j := 0) (t := (85, 0, true)) (b := 4) fk_X12_90 dX12_plans_1 rfl hL rfl rfl rfl ?_
  refine x_iconst (n := 1) (b := 5) dX12_plans_4 (by decide) rfl ?_
  obtain ⟨hs, hF⟩ := ck_e hF
  refine x_iald (v := gI h 85 0 1) (b := 6) ak_85 dX12_plans_5 hs rfl rfl ?_
  refine x_aload_n (i := 0) (b := 7) dX12_plans_6 rfl rfl rfl ?_
  refine x_getL (j := 0) (t := (61, 0, true)) (b := 10) fk_X12_13 dX12_plans_7 rfl hL rfl rfl rfl ?_
  refine x_iconst (n := 4) (b := 11) dX12_plans_10 (by decide) rfl ?_
  obtain ⟨hs, hF⟩ := ck_e hF
  refine x_iald (v := gI h 61 0 4) (b := 12) ak_61 dX12_plans_11 hs rfl rfl ?_
  refine x_icmp_ne (tgt := 88) (b := 15) dX12_plans_12 (by decide) rfl (fun hc => ?_) (fun hc => ?_)
  · replace hF := br_F hc hF
    refine x_iload_n (i := 1) (b := 89) dX12_plans_88 rfl rfl rfl ?_
    refine x_iload_n (i := 2) (b := 90) dX12_plans_89 rfl rfl rfl ?_
    refine x_icmp_eq (tgt := 109) (b := 93) dX12_plans_90 (by decide) rfl (fun hc => ?_) (fun hc => ?_)
    · replace hF := br_T hc hF
      refine x_return dX12_plans_109 rfl ⟨Nat.le_refl _, Nat.le_refl _⟩ ?_
      cases hF
      exact ⟨rfl, rfl, hL⟩
    · replace hF := br_F hc hF
      refine x_aload_n (i := 0) (b := 94) dX12_plans_93 rfl rfl rfl ?_
      refine x_getI (v := gI h 12 0 67) (b := 97) fk_X12_471 dX12_plans_94 (by decide) rfl rfl ?_
      refine x_iconst (n := (-1)) (b := 98) dX12_plans_97 (by decide) rfl ?_
      refine x_icmp_eq (tgt := 110) (b := 101) dX12_plans_98 (by decide) rfl (fun hc => ?_) (fun hc => ?_)
      · replace hF := br_T hc hF
        exact x_dp (ls2 := [some (xr 12 0), some (xi x1), some (xi x2), some (xi x3), none]) ⟨rfl, rfl, rfl, rfl, trivial⟩ (hr_110 x1 x2 x3 h hL hF)
      · replace hF := br_F hc hF
        refine x_iload_n (i := 3) (b := 102) dX12_plans_101 rfl rfl rfl ?_
        refine x_aload_n (i := 0) (b := 103) dX12_plans_102 rfl rfl rfl ?_
        refine x_getI (v := gI h 12 0 67) (b := 106) fk_X12_471 dX12_plans_103 (by decide) rfl rfl ?_
        refine x_icmp_le (tgt := 110) (b := 109) dX12_plans_106 (by decide) rfl (fun hc => ?_) (fun hc => ?_)
        · replace hF := br_T hc hF
          exact x_dp (ls2 := [some (xr 12 0), some (xi x1), some (xi x2), some (xi x3), none]) ⟨rfl, rfl, rfl, rfl, trivial⟩ (hr_110 x1 x2 x3 h hL hF)
        · replace hF := br_F hc hF
          refine x_return dX12_plans_109 rfl ⟨Nat.le_refl _, Nat.le_refl _⟩ ?_
          cases hF
          exact ⟨rfl, rfl, hL⟩
  · replace hF := br_T hc hF
    refine x_aload_n (i := 0) (b := 16) dX12_plans_15 rfl rfl rfl ?_
    refine x_getI (v := gI h 12 0 67) (b := 19) fk_X12_471 dX12_plans_16 (by decide) rfl rfl ?_
    refine x_iconst (n := (-1)) (b := 20) dX12_plans_19 (by decide) rfl ?_
    refine x_icmp_eq (tgt := 48) (b := 23) dX12_plans_20 (by decide) rfl (fun hc => ?_) (fun hc => ?_)
    · replace hF := br_T hc hF
      exact x_dp (ls2 := [some (xr 12 0), some (xi x1), none, some (xi x3), none]) ⟨rfl, rfl, rfl, trivial⟩ (hr_48 x1 x3 h hL hF)
    · replace hF := br_F hc hF
      refine x_iload_n (i := 3) (b := 24) dX12_plans_23 rfl rfl rfl ?_
      refine x_aload_n (i := 0) (b := 25) dX12_plans_24 rfl rfl rfl ?_
      refine x_getI (v := gI h 12 0 67) (b := 28) fk_X12_471 dX12_plans_25 (by decide) rfl rfl ?_
      refine x_icmp_gt (tgt := 47) (b := 31) dX12_plans_28 (by decide) rfl (fun hc => ?_) (fun hc => ?_)
      · replace hF := br_T hc hF
        refine x_return dX12_plans_47 rfl ⟨Nat.le_refl _, Nat.le_refl _⟩ ?_
        cases hF
        exact ⟨rfl, rfl, hL⟩
      · replace hF := br_F hc hF
        refine x_iload_n (i := 3) (b := 32) dX12_plans_31 rfl rfl rfl ?_
        refine x_aload_n (i := 0) (b := 33) dX12_plans_32 rfl rfl rfl ?_
        refine x_getI (v := gI h 12 0 67) (b := 36) fk_X12_471 dX12_plans_33 (by decide) rfl rfl ?_
        refine x_icmp_ne (tgt := 48) (b := 39) dX12_plans_36 (by decide) rfl (fun hc => ?_) (fun hc => ?_)
        · replace hF := br_F hc hF
          exact x_dp (ls2 := [some (xr 12 0), some (xi x1), none, some (xi x3), none]) ⟨rfl, rfl, rfl, trivial⟩ (hr_48 x1 x3 h hL hF)
        · replace hF := br_T hc hF
          refine x_iload_n (i := 1) (b := 40) dX12_plans_39 rfl rfl rfl ?_
          refine x_aload_n (i := 0) (b := 41) dX12_plans_40 rfl rfl rfl ?_
          refine x_getI (v := gI h 12 0 68) (b := 44) fk_X12_474 dX12_plans_41 (by decide) rfl rfl ?_
          refine x_icmp_lt (tgt := 48) (b := 47) dX12_plans_44 (by decide) rfl (fun hc => ?_) (fun hc => ?_)
          · replace hF := br_T hc hF
            exact x_dp (ls2 := [some (xr 12 0), some (xi x1), none, some (xi x3), none]) ⟨rfl, rfl, rfl, trivial⟩ (hr_48 x1 x3 h hL hF)
          · replace hF := br_F hc hF
            refine x_return dX12_plans_47 rfl ⟨Nat.le_refl _, Nat.le_refl _⟩ ?_
            cases hF
            exact ⟨rfl, rfl, hL⟩
set_option maxHeartbeats 4000000 in
set_option maxRecDepth 100000 in
theorem t_grpP_1 (E : xE) (d : Nat) (rec : Rk) (r : Int × Hp) (hr_61 : ∀ (x1 x4 : Int) (h : Hp), Lay h → rec 2 [x1, x4] h = some r → X E mX12_plans (d + 8) (0, 0) (0, 0) 61 [some (xr 12 0), some (xi x1), none, none, some (xi x4)] [] h (PoV r)) (x1 x3 : Int) (h : Hp) (hL : Lay h) (hF : b_grpP_1 rec x1 x3 h = some r) : X E mX12_plans (d + 8) (0, 0) (0, 0) 48 [some (xr 12 0), some (xi x1), none, some (xi x3), none] [] h (PoV r) := by
  unfold b_grpP_1 at hF
  refine x_aload_n (i := 0) (b := 49) dX12_plans_48 rfl rfl rfl ?_
  refine x_iload_n (i := 3) (b := 50) dX12_plans_49 rfl rfl rfl ?_
  refine x_putI (b := 53) fk_X12_471 dX12_plans_50 rfl rfl 67 rfl ?_
  obtain ⟨h1, e_h1, hF⟩ := lt_e hF
  refine x_hp (h2 := h1) e_h1 ?_
  replace hL : Lay h1 := by rw [← e_h1]; exact hL
  refine x_aload_n (i := 0) (b := 54) dX12_plans_53 rfl rfl rfl ?_
  refine x_iload_n (i := 1) (b := 55) dX12_plans_54 rfl rfl rfl ?_
  refine x_putI (b := 58) fk_X12_474 dX12_plans_55 rfl rfl 68 rfl ?_
  obtain ⟨h2, e_h2, hF⟩ := lt_e hF
  refine x_hp (h2 := h2) e_h2 ?_
  replace hL : Lay h2 := by rw [← e_h2]; exact hL
  refine x_iconst (n := 0) (b := 59) dX12_plans_58 (by decide) rfl ?_
  refine x_istore (i := 4) (b := 61) (ls2 := [some (xr 12 0), some (xi x1), none, some (xi x3), some (xi 0)]) dX12_plans_59 (Nat.le_of_ble_eq_true rfl) rfl rfl ?_
  exact x_dp (ls2 := [some (xr 12 0), some (xi x1), none, none, some (xi 0)]) ⟨rfl, rfl, rfl, trivial⟩ (hr_61 x1 0 h2 hL hF)
set_option maxHeartbeats 4000000 in
set_option maxRecDepth 100000 in
theorem t_grpP_2 (E : xE) (d : Nat) (rec : Rk) (r : Int × Hp) (hr_61 : ∀ (x1 x4 : Int) (h : Hp), Lay h → rec 2 [x1, x4] h = some r → X E mX12_plans (d + 8) (0, 0) (0, 0) 61 [some (xr 12 0), some (xi x1), none, none, some (xi x4)] [] h (PoV r)) (x1 x4 : Int) (h : Hp) (hL : Lay h) (hF : b_grpP_2 rec x1 x4 h = some r) : X E mX12_plans (d + 8) (0, 0) (0, 0) 61 [some (xr 12 0), some (xi x1), none, none, some (xi x4)] [] h (PoV r) := by
  unfold b_grpP_2 at hF
  refine x_iload (i := 4) (b := 63) dX12_plans_61 rfl rfl ?_
  refine x_iload_n (i := 1) (b := 64) dX12_plans_63 rfl rfl rfl ?_
  refine x_icmp_ge (tgt := 87) (b := 67) dX12_plans_64 (by decide) rfl (fun hc => ?_) (fun hc => ?_)
  · replace hF := br_T hc hF
    refine x_return dX12_plans_87 rfl ⟨Nat.le_refl _, Nat.le_refl _⟩ ?_
    cases hF
    exact ⟨rfl, rfl, hL⟩
  · replace hF := br_F hc hF
    refine x_aload_n (i := 0) (b := 68) dX12_plans_67 rfl rfl rfl ?_
    refine x_getL (j := 0) (t := (104, 0, true)) (b := 71) fk_X12_154 dX12_plans_68 rfl hL rfl rfl rfl ?_
    refine x_iload (i := 4) (b := 73) dX12_plans_71 rfl rfl ?_
    refine x_aload_n (i := 0) (b := 74) dX12_plans_73 rfl rfl rfl ?_
    refine x_getL (j := 0) (t := (103, 0, true)) (b := 77) fk_X12_151 dX12_plans_74 rfl hL rfl rfl rfl ?_
    refine x_iload (i := 4) (b := 79) dX12_plans_77 rfl rfl ?_
    obtain ⟨hs, hF⟩ := ck_e hF
    refine x_iald (v := gI h 103 0 x4) (b := 80) ak_103 dX12_plans_79 hs rfl rfl ?_
    obtain ⟨hs, hF⟩ := ck_e hF
    have hs1 := hs
    refine x_iast (b := 81) ak_104 dX12_plans_80 hs1 rfl ?_
    obtain ⟨h1, e_h1, hF⟩ := lt_e hF
    refine x_hp (h2 := h1) e_h1 ?_
    replace hL : Lay h1 := by rw [← e_h1]; exact hL
    obtain ⟨hs, hF⟩ := ck_e hF
    refine x_iinc (i := 4) (b := 84) (ls2 := [some (xr 12 0), some (xi x1), none, none, some (xi (x4 + 1))]) dX12_plans_81 rfl (Nat.le_of_ble_eq_true rfl) hs rfl rfl ?_
    refine x_goto (tgt := 61) dX12_plans_84 (by decide) ?_
    exact x_dp (ls2 := [some (xr 12 0), some (xi x1), none, none, some (xi (x4 + 1))]) ⟨rfl, rfl, rfl, trivial⟩ (hr_61 x1 (x4 + 1) h1 hL hF)
set_option maxHeartbeats 4000000 in
set_option maxRecDepth 100000 in
theorem t_grpP_3 (E : xE) (d : Nat) (rec : Rk) (r : Int × Hp) (hr_118 : ∀ (x1 x2 x3 x4 : Int) (h : Hp), Lay h → rec 4 [x1, x2, x3, x4] h = some r → X E mX12_plans (d + 8) (0, 0) (0, 0) 118 [some (xr 12 0), some (xi x1), some (xi x2), some (xi x3), some (xi x4)] [] h (PoV r)) (x1 x2 x3 : Int) (h : Hp) (hL : Lay h) (hF : b_grpP_3 rec x1 x2 x3 h = some r) : X E mX12_plans (d + 8) (0, 0) (0, 0) 110 [some (xr 12 0), some (xi x1), some (xi x2), some (xi x3), none] [] h (PoV r) := by
  unfold b_grpP_3 at hF
  refine x_aload_n (i := 0) (b := 111) dX12_plans_110 rfl rfl rfl ?_
  refine x_iload_n (i := 1) (b := 112) dX12_plans_111 rfl rfl rfl ?_
  obtain ⟨v1, h2, hq, hF⟩ := bd_e hF
  refine x_callV (as := [xi x1]) (rest := []) (b := 115) (c_X12_puts_ (d + 6) x1 h _ hL hq) dX12_plans_112 cw_X12_477 ⟨_, _, rfl, Nat.le_of_ble_eq_true rfl⟩ rfl rfl (Nat.le_of_ble_eq_true rfl) ⟨Nat.le_refl _, Nat.le_refl _⟩ rfl (fun rv hh hp _ => ?_)
  obtain ⟨rfl, rfl, hL⟩ := hp
  refine x_iconst (n := 0) (b := 116) dX12_plans_115 (by decide) rfl ?_
  refine x_istore (i := 4) (b := 118) (ls2 := [some (xr 12 0), some (xi x1), some (xi x2), some (xi x3), some (xi 0)]) dX12_plans_116 (Nat.le_of_ble_eq_true rfl) rfl rfl ?_
  exact x_dp (ls2 := [some (xr 12 0), some (xi x1), some (xi x2), some (xi x3), some (xi 0)]) ⟨rfl, rfl, rfl, rfl, rfl, trivial⟩ (hr_118 x1 x2 x3 0 h2 hL hF)
set_option maxHeartbeats 4000000 in
set_option maxRecDepth 100000 in
theorem t_grpP_4 (E : xE) (d : Nat) (rec : Rk) (r : Int × Hp) (hr_118 : ∀ (x1 x2 x3 x4 : Int) (h : Hp), Lay h → rec 4 [x1, x2, x3, x4] h = some r → X E mX12_plans (d + 8) (0, 0) (0, 0) 118 [some (xr 12 0), some (xi x1), some (xi x2), some (xi x3), some (xi x4)] [] h (PoV r)) (hc_X12_plans : ∀ (x1 x2 x3 : Int) (h : Hp) (r : Int × Hp), Lay h → rec 0 [x1, x2, x3] h = some r → Sp mX12_plans (d + 7) (0, 0) [xr 12 0, xi x1, xi x2, xi x3] h (PoV r)) (x1 x2 x3 x4 : Int) (h : Hp) (hL : Lay h) (hF : b_grpP_4 rec x1 x2 x3 x4 h = some r) : X E mX12_plans (d + 8) (0, 0) (0, 0) 118 [some (xr 12 0), some (xi x1), some (xi x2), some (xi x3), some (xi x4)] [] h (PoV r) := by
  unfold b_grpP_4 at hF
  refine x_iload (i := 4) (b := 120) dX12_plans_118 rfl rfl ?_
  refine x_iconst (n := 1) (b := 121) dX12_plans_120 (by decide) rfl ?_
  refine x_aload_n (i := 0) (b := 122) dX12_plans_121 rfl rfl rfl ?_
  refine x_getL (j := 0) (t := (61, 0, true)) (b := 125) fk_X12_13 dX12_plans_122 rfl hL rfl rfl rfl ?_
  refine x_bipush (n := 12) (b := 127) dX12_plans_125 (by decide) rfl ?_
  obtain ⟨hs, hF⟩ := ck_e hF
  refine x_iald (v := gI h 61 0 12) (b := 128) ak_61 dX12_plans_127 hs rfl rfl ?_
  refine x_ishl (b := 129) dX12_plans_128 rfl ?_
  refine x_icmp_ge (tgt := 178) (b := 132) dX12_plans_129 (by decide) rfl (fun hc => ?_) (fun hc => ?_)
  · replace hF := br_T hc hF
    refine x_aload_n (i := 0) (b := 179) dX12_plans_178 rfl rfl rfl ?_
    refine x_iload_n (i := 1) (b := 180) dX12_plans_179 rfl rfl rfl ?_
    obtain ⟨v1, h2, hq, hF⟩ := bd_e hF
    refine x_callV (as := [xi x1]) (rest := []) (b := 183) (c_X12_takes (d + 6) x1 h _ hL hq) dX12_plans_180 cw_X12_479 ⟨_, _, rfl, Nat.le_of_ble_eq_true rfl⟩ rfl rfl (Nat.le_of_ble_eq_true rfl) ⟨Nat.le_refl _, Nat.le_refl _⟩ rfl (fun rv hh hp _ => ?_)
    obtain ⟨rfl, rfl, hL⟩ := hp
    refine x_return dX12_plans_183 rfl ⟨Nat.le_refl _, Nat.le_refl _⟩ ?_
    cases hF
    exact ⟨rfl, rfl, hL⟩
  · replace hF := br_F hc hF
    refine x_aload_n (i := 0) (b := 133) dX12_plans_132 rfl rfl rfl ?_
    refine x_iload_n (i := 1) (b := 134) dX12_plans_133 rfl rfl rfl ?_
    obtain ⟨v3, h4, hq, hF⟩ := bd_e hF
    refine x_callV (as := [xi x1]) (rest := []) (b := 137) (c_X12_takes (d + 6) x1 h _ hL hq) dX12_plans_134 cw_X12_479 ⟨_, _, rfl, Nat.le_of_ble_eq_true rfl⟩ rfl rfl (Nat.le_of_ble_eq_true rfl) ⟨Nat.le_refl _, Nat.le_refl _⟩ rfl (fun rv hh hp _ => ?_)
    obtain ⟨rfl, rfl, hL⟩ := hp
    refine x_aload_n (i := 0) (b := 138) dX12_plans_137 rfl rfl rfl ?_
    refine x_getL (j := 0) (t := (89, 0, true)) (b := 141) fk_X12_102 dX12_plans_138 rfl hL rfl rfl rfl ?_
    refine x_iconst (n := 1) (b := 142) dX12_plans_141 (by decide) rfl ?_
    refine x_iload (i := 4) (b := 144) dX12_plans_142 rfl rfl ?_
    obtain ⟨hs, hF⟩ := ck_e hF
    have hs1 := hs
    refine x_iast (b := 145) ak_89 dX12_plans_144 hs1 rfl ?_
    obtain ⟨h5, e_h5, hF⟩ := lt_e hF
    refine x_hp (h2 := h5) e_h5 ?_
    replace hL : Lay h5 := by rw [← e_h5]; exact hL
    refine x_aload_n (i := 0) (b := 146) dX12_plans_145 rfl rfl rfl ?_
    refine x_getL (j := 0) (t := (103, 0, true)) (b := 149) fk_X12_151 dX12_plans_146 rfl hL rfl rfl rfl ?_
    refine x_iload_n (i := 1) (b := 150) dX12_plans_149 rfl rfl rfl ?_
    refine x_iload (i := 4) (b := 152) dX12_plans_150 rfl rfl ?_
    obtain ⟨hs, hF⟩ := ck_e hF
    have hs1 := hs
    refine x_iast (b := 153) ak_103 dX12_plans_152 hs1 rfl ?_
    obtain ⟨h6, e_h6, hF⟩ := lt_e hF
    refine x_hp (h2 := h6) e_h6 ?_
    replace hL : Lay h6 := by rw [← e_h6]; exact hL
    refine x_aload_n (i := 0) (b := 154) dX12_plans_153 rfl rfl rfl ?_
    refine x_iconst (n := 1) (b := 155) dX12_plans_154 (by decide) rfl ?_
    obtain ⟨v7, h8, hq, hF⟩ := bd_e hF
    refine x_callV (as := [xi 1]) (rest := []) (b := 158) (c_X12_passes d 1 h6 _ hL hq) dX12_plans_155 cw_X12_465 ⟨_, _, rfl, Nat.le_of_ble_eq_true rfl⟩ rfl rfl (Nat.le_of_ble_eq_true rfl) ⟨Nat.le_refl _, Nat.le_refl _⟩ rfl (fun rv hh hp _ => ?_)
    obtain ⟨rfl, rfl, hL⟩ := hp
    refine x_aload_n (i := 0) (b := 159) dX12_plans_158 rfl rfl rfl ?_
    refine x_iload_n (i := 1) (b := 160) dX12_plans_159 rfl rfl rfl ?_
    refine x_iconst (n := 1) (b := 161) dX12_plans_160 (by decide) rfl ?_
    obtain ⟨hs, hF⟩ := ck_e hF
    refine x_iadd (b := 162) dX12_plans_161 hs rfl ?_
    refine x_iload_n (i := 2) (b := 163) dX12_plans_162 rfl rfl rfl ?_
    refine x_iload_n (i := 3) (b := 164) dX12_plans_163 rfl rfl rfl ?_
    refine x_aload_n (i := 0) (b := 165) dX12_plans_164 rfl rfl rfl ?_
    refine x_getI (v := gI h8 12 0 64) (b := 168) fk_X12_419 dX12_plans_165 (by decide) rfl rfl ?_
    obtain ⟨hs, hF⟩ := ck_e hF
    refine x_iadd (b := 169) dX12_plans_168 hs rfl ?_
    obtain ⟨v9, h10, hq, hF⟩ := bd_e hF
    refine x_callV (as := [xi (x1 + 1), xi x2, xi (x3 + (gI h8 12 0 64))]) (rest := []) (b := 172) (hc_X12_plans (x1 + 1) x2 (x3 + (gI h8 12 0 64)) h8 _ hL hq) dX12_plans_169 cw_X12_482 ⟨_, _, rfl, Nat.le_of_ble_eq_true rfl⟩ rfl rfl (Nat.le_of_ble_eq_true rfl) ⟨Nat.le_refl _, Nat.le_refl _⟩ rfl (fun rv hh hp _ => ?_)
    obtain ⟨rfl, rfl, hL⟩ := hp
    obtain ⟨hs, hF⟩ := ck_e hF
    refine x_iinc (i := 4) (b := 175) (ls2 := [some (xr 12 0), some (xi x1), some (xi x2), some (xi x3), some (xi (x4 + 1))]) dX12_plans_172 rfl (Nat.le_of_ble_eq_true rfl) hs rfl rfl ?_
    refine x_goto (tgt := 118) dX12_plans_175 (by decide) ?_
    exact x_dp (ls2 := [some (xr 12 0), some (xi x1), some (xi x2), some (xi x3), some (xi (x4 + 1))]) ⟨rfl, rfl, rfl, rfl, rfl, trivial⟩ (hr_118 x1 x2 x3 (x4 + 1) h10 hL hF)
set_option maxHeartbeats 4000000 in
set_option maxRecDepth 100000 in
theorem u_grpP : ∀ (n d : Nat), n ≤ d → (∀ (E : xE) (r : Int × Hp) (x1 x2 x3 : Int) (h : Hp), Lay h → g_grpP n 0 [x1, x2, x3] h = some r → X E mX12_plans (d + 7) (0, 0) (0, 0) 0 [some (xr 12 0), some (xi x1), some (xi x2), some (xi x3), none] [] h (PoV r)) ∧ (∀ (E : xE) (r : Int × Hp) (x1 x3 : Int) (h : Hp), Lay h → g_grpP n 1 [x1, x3] h = some r → X E mX12_plans (d + 7) (0, 0) (0, 0) 48 [some (xr 12 0), some (xi x1), none, some (xi x3), none] [] h (PoV r)) ∧ (∀ (E : xE) (r : Int × Hp) (x1 x4 : Int) (h : Hp), Lay h → g_grpP n 2 [x1, x4] h = some r → X E mX12_plans (d + 7) (0, 0) (0, 0) 61 [some (xr 12 0), some (xi x1), none, none, some (xi x4)] [] h (PoV r)) ∧ (∀ (E : xE) (r : Int × Hp) (x1 x2 x3 : Int) (h : Hp), Lay h → g_grpP n 3 [x1, x2, x3] h = some r → X E mX12_plans (d + 7) (0, 0) (0, 0) 110 [some (xr 12 0), some (xi x1), some (xi x2), some (xi x3), none] [] h (PoV r)) ∧ (∀ (E : xE) (r : Int × Hp) (x1 x2 x3 x4 : Int) (h : Hp), Lay h → g_grpP n 4 [x1, x2, x3, x4] h = some r → X E mX12_plans (d + 7) (0, 0) (0, 0) 118 [some (xr 12 0), some (xi x1), some (xi x2), some (xi x3), some (xi x4)] [] h (PoV r)) := by
  intro n
  induction n with
  | zero => intro d hd; exact ⟨fun _ r _ _ _ _ _ hF => no_e (r := r) hF, fun _ r _ _ _ _ hF => no_e (r := r) hF, fun _ r _ _ _ _ hF => no_e (r := r) hF, fun _ r _ _ _ _ _ hF => no_e (r := r) hF, fun _ r _ _ _ _ _ _ hF => no_e (r := r) hF⟩
  | succ n ih =>
    intro d hd
    obtain ⟨d, rfl⟩ : ∃ d2, d = d2 + 1 := ⟨d - 1, by omega⟩
    have ih0 := ih d (by omega)
    have ih1 := ih (d + 1) (by omega)
    exact ⟨fun E r x1 x2 x3 h hL hF => t_grpP_0 E d (g_grpP n) r (ih1.2.1 E r) (ih1.2.2.2.1 E r)  x1 x2 x3 h hL hF, fun E r x1 x3 h hL hF => t_grpP_1 E d (g_grpP n) r (ih1.2.2.1 E r)  x1 x3 h hL hF, fun E r x1 x4 h hL hF => t_grpP_2 E d (g_grpP n) r (ih1.2.2.1 E r)  x1 x4 h hL hF, fun E r x1 x2 x3 h hL hF => t_grpP_3 E d (g_grpP n) r (ih1.2.2.2.2 E r)  x1 x2 x3 h hL hF, fun E r x1 x2 x3 x4 h hL hF => t_grpP_4 E d (g_grpP n) r (ih1.2.2.2.2 E r) (fun x1 x2 x3 h r hL hF => sp_of (by decide) rfl (Nat.le_of_ble_eq_true rfl) (ls := [some (xr 12 0), some (xi x1), some (xi x2), some (xi x3), none]) rfl (fun E _ => ih0.1 E r x1 x2 x3 h hL hF)) x1 x2 x3 x4 h hL hF⟩
noncomputable def f_X12_plans (x1 x2 x3 : Int) (h : Hp) : Option (Int × Hp) := g_grpP 1000 0 [x1, x2, x3] h
theorem c_X12_plans (d : Nat) (x1 x2 x3 : Int) (h : Hp) (r : Int × Hp) (hL : Lay h) (hF : f_X12_plans x1 x2 x3 h = some r) : Sp mX12_plans (d + 1007) (0, 0) [xr 12 0, xi x1, xi x2, xi x3] h (PoV r) :=
  sp_of (by decide) rfl (Nat.le_of_ble_eq_true rfl) (ls := [some (xr 12 0), some (xi x1), some (xi x2), some (xi x3), none]) rfl (fun E _ => (u_grpP 1000 (d + 1000) (by omega)).1 E r x1 x2 x3 h hL hF)
theorem dX11_fitting_0 : decode cX11_fitting 0 = .ok (.aload_n 0, 1) := by decide +kernel
theorem dX11_fitting_1 : decode cX11_fitting 1 = .ok (.getfield 95, 3) := by decide +kernel
theorem dX11_fitting_4 : decode cX11_fitting 4 = .ok (.iconst (-1), 1) := by decide +kernel
theorem dX11_fitting_5 : decode cX11_fitting 5 = .ok (.if_icmp .eq 8, 3) := by decide +kernel
theorem dX11_fitting_8 : decode cX11_fitting 8 = .ok (.aload_n 0, 1) := by decide +kernel
theorem dX11_fitting_9 : decode cX11_fitting 9 = .ok (.getfield 95, 3) := by decide +kernel
theorem dX11_fitting_12 : decode cX11_fitting 12 = .ok (.ireturn, 1) := by decide +kernel
theorem dX11_fitting_13 : decode cX11_fitting 13 = .ok (.aload_n 0, 1) := by decide +kernel
theorem dX11_fitting_14 : decode cX11_fitting 14 = .ok (.getfield 88, 3) := by decide +kernel
theorem dX11_fitting_17 : decode cX11_fitting 17 = .ok (.invokevirtual 318, 3) := by decide +kernel
theorem dX11_fitting_20 : decode cX11_fitting 20 = .ok (.aload_n 0, 1) := by decide +kernel
theorem dX11_fitting_21 : decode cX11_fitting 21 = .ok (.getfield 88, 3) := by decide +kernel
theorem dX11_fitting_24 : decode cX11_fitting 24 = .ok (.invokevirtual 321, 3) := by decide +kernel
theorem dX11_fitting_27 : decode cX11_fitting 27 = .ok (.iconst 1, 1) := by decide +kernel
theorem dX11_fitting_28 : decode cX11_fitting 28 = .ok (.iadd, 1) := by decide +kernel
theorem dX11_fitting_29 : decode cX11_fitting 29 = .ok (.istore_n 1, 1) := by decide +kernel
theorem dX11_fitting_30 : decode cX11_fitting 30 = .ok (.iconst 0, 1) := by decide +kernel
theorem dX11_fitting_31 : decode cX11_fitting 31 = .ok (.istore_n 2, 1) := by decide +kernel
theorem dX11_fitting_32 : decode cX11_fitting 32 = .ok (.iconst 0, 1) := by decide +kernel
theorem dX11_fitting_33 : decode cX11_fitting 33 = .ok (.istore_n 3, 1) := by decide +kernel
theorem dX11_fitting_34 : decode cX11_fitting 34 = .ok (.iload_n 1, 1) := by decide +kernel
theorem dX11_fitting_35 : decode cX11_fitting 35 = .ok (.aload_n 0, 1) := by decide +kernel
theorem dX11_fitting_36 : decode cX11_fitting 36 = .ok (.getfield 57, 3) := by decide +kernel
theorem dX11_fitting_39 : decode cX11_fitting 39 = .ok (.getfield 195, 3) := by decide +kernel
theorem dX11_fitting_42 : decode cX11_fitting 42 = .ok (.if_icmp .gt 138, 3) := by decide +kernel
theorem dX11_fitting_45 : decode cX11_fitting 45 = .ok (.iload_n 3, 1) := by decide +kernel
theorem dX11_fitting_46 : decode cX11_fitting 46 = .ok (.iconst 1, 1) := by decide +kernel
theorem dX11_fitting_47 : decode cX11_fitting 47 = .ok (.aload_n 0, 1) := by decide +kernel
theorem dX11_fitting_48 : decode cX11_fitting 48 = .ok (.getfield 20, 3) := by decide +kernel
theorem dX11_fitting_51 : decode cX11_fitting 51 = .ok (.getfield 237, 3) := by decide +kernel
theorem dX11_fitting_54 : decode cX11_fitting 54 = .ok (.ishl, 1) := by decide +kernel
theorem dX11_fitting_55 : decode cX11_fitting 55 = .ok (.if_icmp .ge 125, 3) := by decide +kernel
theorem dX11_fitting_58 : decode cX11_fitting 58 = .ok (.aload_n 0, 1) := by decide +kernel
theorem dX11_fitting_59 : decode cX11_fitting 59 = .ok (.getfield 92, 3) := by decide +kernel
theorem dX11_fitting_62 : decode cX11_fitting 62 = .ok (.aload_n 0, 1) := by decide +kernel
theorem dX11_fitting_63 : decode cX11_fitting 63 = .ok (.getfield 20, 3) := by decide +kernel
theorem dX11_fitting_66 : decode cX11_fitting 66 = .ok (.invokevirtual 98, 3) := by decide +kernel
theorem dX11_fitting_69 : decode cX11_fitting 69 = .ok (.aload_n 0, 1) := by decide +kernel
theorem dX11_fitting_70 : decode cX11_fitting 70 = .ok (.getfield 92, 3) := by decide +kernel
theorem dX11_fitting_73 : decode cX11_fitting 73 = .ok (.iload_n 3, 1) := by decide +kernel
theorem dX11_fitting_74 : decode cX11_fitting 74 = .ok (.putfield 240, 3) := by decide +kernel
theorem dX11_fitting_77 : decode cX11_fitting 77 = .ok (.iconst 1, 1) := by decide +kernel
theorem dX11_fitting_78 : decode cX11_fitting 78 = .ok (.istore 4, 2) := by decide +kernel
theorem dX11_fitting_80 : decode cX11_fitting 80 = .ok (.iconst 0, 1) := by decide +kernel
theorem dX11_fitting_81 : decode cX11_fitting 81 = .ok (.istore 5, 2) := by decide +kernel
theorem dX11_fitting_83 : decode cX11_fitting 83 = .ok (.iload 4, 2) := by decide +kernel
theorem dX11_fitting_85 : decode cX11_fitting 85 = .ok (.ifCond .eq 74, 3) := by decide +kernel
theorem dX11_fitting_88 : decode cX11_fitting 88 = .ok (.iload 5, 2) := by decide +kernel
theorem dX11_fitting_90 : decode cX11_fitting 90 = .ok (.iload_n 1, 1) := by decide +kernel
theorem dX11_fitting_91 : decode cX11_fitting 91 = .ok (.if_icmp .ge 68, 3) := by decide +kernel
theorem dX11_fitting_94 : decode cX11_fitting 94 = .ok (.iload 5, 2) := by decide +kernel
theorem dX11_fitting_96 : decode cX11_fitting 96 = .ok (.bipush 60, 2) := by decide +kernel
theorem dX11_fitting_98 : decode cX11_fitting 98 = .ok (.if_icmp .ge 61, 3) := by decide +kernel
theorem dX11_fitting_101 : decode cX11_fitting 101 = .ok (.aload_n 0, 1) := by decide +kernel
theorem dX11_fitting_102 : decode cX11_fitting 102 = .ok (.getfield 41, 3) := by decide +kernel
theorem dX11_fitting_105 : decode cX11_fitting 105 = .ok (.aload_n 0, 1) := by decide +kernel
theorem dX11_fitting_106 : decode cX11_fitting 106 = .ok (.getfield 92, 3) := by decide +kernel
theorem dX11_fitting_109 : decode cX11_fitting 109 = .ok (.aload_n 0, 1) := by decide +kernel
theorem dX11_fitting_110 : decode cX11_fitting 110 = .ok (.getfield 64, 3) := by decide +kernel
theorem dX11_fitting_113 : decode cX11_fitting 113 = .ok (.getfield 271, 3) := by decide +kernel
theorem dX11_fitting_116 : decode cX11_fitting 116 = .ok (.iload 5, 2) := by decide +kernel
theorem dX11_fitting_118 : decode cX11_fitting 118 = .ok (.iaload, 1) := by decide +kernel
theorem dX11_fitting_119 : decode cX11_fitting 119 = .ok (.invokevirtual 254, 3) := by decide +kernel
theorem dX11_fitting_122 : decode cX11_fitting 122 = .ok (.istore 6, 2) := by decide +kernel
theorem dX11_fitting_124 : decode cX11_fitting 124 = .ok (.aload_n 0, 1) := by decide +kernel
theorem dX11_fitting_125 : decode cX11_fitting 125 = .ok (.getfield 88, 3) := by decide +kernel
theorem dX11_fitting_128 : decode cX11_fitting 128 = .ok (.iload 5, 2) := by decide +kernel
theorem dX11_fitting_130 : decode cX11_fitting 130 = .ok (.iload 6, 2) := by decide +kernel
theorem dX11_fitting_132 : decode cX11_fitting 132 = .ok (.aload_n 0, 1) := by decide +kernel
theorem dX11_fitting_133 : decode cX11_fitting 133 = .ok (.getfield 41, 3) := by decide +kernel
theorem dX11_fitting_136 : decode cX11_fitting 136 = .ok (.getfield 261, 3) := by decide +kernel
theorem dX11_fitting_139 : decode cX11_fitting 139 = .ok (.invokevirtual 324, 3) := by decide +kernel
theorem dX11_fitting_142 : decode cX11_fitting 142 = .ok (.iconst (-1), 1) := by decide +kernel
theorem dX11_fitting_143 : decode cX11_fitting 143 = .ok (.if_icmp .ne 7, 3) := by decide +kernel
theorem dX11_fitting_146 : decode cX11_fitting 146 = .ok (.iconst 1, 1) := by decide +kernel
theorem dX11_fitting_147 : decode cX11_fitting 147 = .ok (.goto 4, 3) := by decide +kernel
theorem dX11_fitting_150 : decode cX11_fitting 150 = .ok (.iconst 0, 1) := by decide +kernel
theorem dX11_fitting_151 : decode cX11_fitting 151 = .ok (.istore 4, 2) := by decide +kernel
theorem dX11_fitting_153 : decode cX11_fitting 153 = .ok (.iinc 5 1, 3) := by decide +kernel
theorem dX11_fitting_156 : decode cX11_fitting 156 = .ok (.goto (-73), 3) := by decide +kernel
theorem dX11_fitting_159 : decode cX11_fitting 159 = .ok (.iload_n 2, 1) := by decide +kernel
theorem dX11_fitting_160 : decode cX11_fitting 160 = .ok (.iload 4, 2) := by decide +kernel
theorem dX11_fitting_162 : decode cX11_fitting 162 = .ok (.ifCond .eq 9, 3) := by decide +kernel
theorem dX11_fitting_165 : decode cX11_fitting 165 = .ok (.iconst 1, 1) := by decide +kernel
theorem dX11_fitting_166 : decode cX11_fitting 166 = .ok (.iload_n 3, 1) := by decide +kernel
theorem dX11_fitting_167 : decode cX11_fitting 167 = .ok (.ishl, 1) := by decide +kernel
theorem dX11_fitting_168 : decode cX11_fitting 168 = .ok (.goto 4, 3) := by decide +kernel
theorem dX11_fitting_171 : decode cX11_fitting 171 = .ok (.iconst 0, 1) := by decide +kernel
theorem dX11_fitting_172 : decode cX11_fitting 172 = .ok (.ior, 1) := by decide +kernel
theorem dX11_fitting_173 : decode cX11_fitting 173 = .ok (.istore_n 2, 1) := by decide +kernel
theorem dX11_fitting_174 : decode cX11_fitting 174 = .ok (.iinc 3 1, 3) := by decide +kernel
theorem dX11_fitting_177 : decode cX11_fitting 177 = .ok (.goto (-143), 3) := by decide +kernel
theorem dX11_fitting_180 : decode cX11_fitting 180 = .ok (.aload_n 0, 1) := by decide +kernel
theorem dX11_fitting_181 : decode cX11_fitting 181 = .ok (.iload_n 2, 1) := by decide +kernel
theorem dX11_fitting_182 : decode cX11_fitting 182 = .ok (.putfield 95, 3) := by decide +kernel
theorem dX11_fitting_185 : decode cX11_fitting 185 = .ok (.iload_n 2, 1) := by decide +kernel
theorem dX11_fitting_186 : decode cX11_fitting 186 = .ok (.ireturn, 1) := by decide +kernel
noncomputable def b_X11_fitting_0 (rec : Rk) (h : Hp) : Option (Int × Hp) :=
  if (gI h 11 0 16) = (-1) then (
    bd (f_X5_sift h) fun v1 h2 =>
    bd (f_X5_latestMeal h2) fun v3 h4 =>
    ck (-2147483648 ≤ v3 + 1 ∧ v3 + 1 < 2147483648) <|
    lt (v3 + 1) fun z5 =>
    rec 1 [z5, 0, 0] h4
  ) else (
    some (gI h 11 0 16, h)
  )
noncomputable def b_X11_fitting_1 (rec : Rk) (x1 x2 x3 : Int) (h : Hp) : Option (Int × Hp) :=
  if (gI h 10 0 0) < x1 then (
    rec 6 [x2] h
  ) else (
    rf (gR h 11 0 2) 0 fun j1 =>
    if (bshl 1 (gI h 0 j1 4)) ≤ x3 then (
      rec 6 [x2] h
    ) else (
      rf (gR h 11 0 2) 0 fun j2 =>
      bd (f_X10_begin 22 j2 h) fun v3 h4 =>
      lt (sI h4 10 22 5 x3) fun h5 =>
      rec 2 [x1, x2, x3, 1, 0] h5
    )
  )
noncomputable def b_X11_fitting_2 (rec : Rk) (x1 x2 x3 x4 x5 : Int) (h : Hp) : Option (Int × Hp) :=
  if x4 = 0 then (
    rec 4 [x1, x2, x3, x4] h
  ) else (
    if x1 ≤ x5 then (
      rec 4 [x1, x2, x3, x4] h
    ) else (
      if 60 ≤ x5 then (
        rec 4 [x1, x2, x3, x4] h
      ) else (
        ck (0 ≤ x5 ∧ x5 < 60) <|
        bd (f_X2_hold 22 (gI h 38 0 x5) h) fun v1 h2 =>
        bd (f_X5_firstFalse x5 v1 (gI h2 2 0 7) h2) fun v3 h4 =>
        if v3 = (-1) then (
          rec 3 [x1, x2, x3, x5, 1] h4
        ) else (
          rec 3 [x1, x2, x3, x5, 0] h4
        )
      )
    )
  )
noncomputable def b_X11_fitting_3 (rec : Rk) (x1 x2 x3 x5 y0 : Int) (h : Hp) : Option (Int × Hp) :=
  ck (-2147483648 ≤ x5 + 1 ∧ x5 + 1 < 2147483648) <|
  rec 2 [x1, x2, x3, y0, x5 + 1] h
noncomputable def b_X11_fitting_4 (rec : Rk) (x1 x2 x3 x4 : Int) (h : Hp) : Option (Int × Hp) :=
  if x4 = 0 then (
    rec 5 [x1, x3, 0, x2] h
  ) else (
    rec 5 [x1, x3, bshl 1 x3, x2] h
  )
noncomputable def b_X11_fitting_5 (rec : Rk) (x1 x3 y0 y1 : Int) (h : Hp) : Option (Int × Hp) :=
  lt (bor y1 y0) fun z1 =>
  ck (-2147483648 ≤ x3 + 1 ∧ x3 + 1 < 2147483648) <|
  rec 1 [x1, z1, x3 + 1] h
noncomputable def b_X11_fitting_6 (rec : Rk) (x2 : Int) (h : Hp) : Option (Int × Hp) :=
  lt (sI h 11 0 16 x2) fun h1 =>
  some (x2, h1)
noncomputable def g_X11_fitting (n : Nat) : Rk := Nat.rec (motive := fun _ => Rk) (fun _ _ _ => none) (fun _ rec k l h => if k = 0 then b_X11_fitting_0 rec  h else if k = 1 then b_X11_fitting_1 rec (l.getD 0 0) (l.getD 1 0) (l.getD 2 0) h else if k = 2 then b_X11_fitting_2 rec (l.getD 0 0) (l.getD 1 0) (l.getD 2 0) (l.getD 3 0) (l.getD 4 0) h else if k = 3 then b_X11_fitting_3 rec (l.getD 0 0) (l.getD 1 0) (l.getD 2 0) (l.getD 3 0) (l.getD 4 0) h else if k = 4 then b_X11_fitting_4 rec (l.getD 0 0) (l.getD 1 0) (l.getD 2 0) (l.getD 3 0) h else if k = 5 then b_X11_fitting_5 rec (l.getD 0 0) (l.getD 1 0) (l.getD 2 0) (l.getD 3 0) h else if k = 6 then b_X11_fitting_6 rec (l.getD 0 0) h else none) n
noncomputable def f_X11_fitting (h : Hp) : Option (Int × Hp) := g_X11_fitting FU 0 [] h
set_option maxHeartbeats 4000000 in
set_option maxRecDepth 100000 in
theorem t_X11_fitting_0 (E : xE) (d : Nat) (rec : Rk) (r : Int × Hp) (hr_34 : ∀ (x1 x2 x3 : Int) (h : Hp), Lay h → rec 1 [x1, x2, x3] h = some r → X E mX11_fitting (d + 7) (0, 0) (0, 0) 34 [some (xr 11 0), some (xi x1), some (xi x2), some (xi x3), none, none, none] [] h (PoI r)) (h : Hp) (hL : Lay h) (hF : b_X11_fitting_0 rec  h = some r) : X E mX11_fitting (d + 7) (0, 0) (0, 0) 0 [some (xr 11 0), none, none, none, none, none, none] [] h (PoI r) := by
  unfold b_X11_fitting_0 at hF
  refine x_aload_n (i := 0) (b := 1) dX11_fitting_0 rfl rfl rfl ?_
  refine x_getI (v := gI h 11 0 16) (b := 4) fk_X11_95 dX11_fitting_1 (by decide) rfl rfl ?_
  refine x_iconst (n := (-1)) (b := 5) dX11_fitting_4 (by decide) rfl ?_
  refine x_icmp_eq (tgt := 13) (b := 8) dX11_fitting_5 (by decide) rfl (fun hc => ?_) (fun hc => ?_)
  · replace hF := br_T hc hF
    refine x_aload_n (i := 0) (b := 14) dX11_fitting_13 rfl rfl rfl ?_
    refine x_getL (j := 0) (t := (5, 0, false)) (b := 17) fk_X11_88 dX11_fitting_14 rfl hL rfl rfl rfl ?_
    obtain ⟨v1, h2, hq, hF⟩ := bd_e hF
    refine x_callV (as := []) (rest := []) (b := 20) (c_X5_sift (d + 4) h _ hL hq) dX11_fitting_17 cw_X11_318 ⟨_, _, rfl, Nat.le_of_ble_eq_true rfl⟩ rfl rfl (Nat.le_of_ble_eq_true rfl) ⟨Nat.le_refl _, Nat.le_refl _⟩ rfl (fun rv hh hp _ => ?_)
    obtain ⟨rfl, rfl, hL⟩ := hp
    refine x_aload_n (i := 0) (b := 21) dX11_fitting_20 rfl rfl rfl ?_
    refine x_getL (j := 0) (t := (5, 0, false)) (b := 24) fk_X11_88 dX11_fitting_21 rfl hL rfl rfl rfl ?_
    obtain ⟨v3, h4, hq, hF⟩ := bd_e hF
    refine x_callV (as := []) (rest := []) (b := 27) (c_X5_latestMeal (d + 3) h2 _ hL hq) dX11_fitting_24 cw_X11_321 ⟨_, _, rfl, Nat.le_of_ble_eq_true rfl⟩ rfl rfl (Nat.le_of_ble_eq_true rfl) ⟨Nat.le_refl _, Nat.le_refl _⟩ rfl (fun rv hh hp _ => ?_)
    obtain ⟨rfl, rfl, hL⟩ := hp
    refine x_iconst (n := 1) (b := 28) dX11_fitting_27 (by decide) rfl ?_
    obtain ⟨hs, hF⟩ := ck_e hF
    refine x_iadd (b := 29) dX11_fitting_28 hs rfl ?_
    obtain ⟨z5, e_z5, hF⟩ := lt_e hF
    refine x_eq (y := z5) e_z5 ?_
    refine x_istore_n (i := 1) (b := 30) (ls2 := [some (xr 11 0), some (xi z5), none, none, none, none, none]) dX11_fitting_29 rfl (Nat.le_of_ble_eq_true rfl) rfl rfl ?_
    refine x_iconst (n := 0) (b := 31) dX11_fitting_30 (by decide) rfl ?_
    refine x_istore_n (i := 2) (b := 32) (ls2 := [some (xr 11 0), some (xi z5), some (xi 0), none, none, none, none]) dX11_fitting_31 rfl (Nat.le_of_ble_eq_true rfl) rfl rfl ?_
    refine x_iconst (n := 0) (b := 33) dX11_fitting_32 (by decide) rfl ?_
    refine x_istore_n (i := 3) (b := 34) (ls2 := [some (xr 11 0), some (xi z5), some (xi 0), some (xi 0), none, none, none]) dX11_fitting_33 rfl (Nat.le_of_ble_eq_true rfl) rfl rfl ?_
    exact x_dp (ls2 := [some (xr 11 0), some (xi z5), some (xi 0), some (xi 0), none, none, none]) ⟨rfl, rfl, rfl, rfl, trivial⟩ (hr_34 z5 0 0 h4 hL hF)
  · replace hF := br_F hc hF
    refine x_aload_n (i := 0) (b := 9) dX11_fitting_8 rfl rfl rfl ?_
    refine x_getI (v := gI h 11 0 16) (b := 12) fk_X11_95 dX11_fitting_9 (by decide) rfl rfl ?_
    refine x_ireturn dX11_fitting_12 rfl ⟨Nat.le_refl _, Nat.le_refl _⟩ ?_
    cases hF
    exact ⟨rfl, rfl, hL⟩
set_option maxHeartbeats 4000000 in
set_option maxRecDepth 100000 in
theorem t_X11_fitting_1 (E : xE) (d : Nat) (rec : Rk) (r : Int × Hp) (hr_83 : ∀ (x1 x2 x3 x4 x5 : Int) (h : Hp), Lay h → rec 2 [x1, x2, x3, x4, x5] h = some r → X E mX11_fitting (d + 7) (0, 0) (0, 0) 83 [some (xr 11 0), some (xi x1), some (xi x2), some (xi x3), some (xi x4), some (xi x5), none] [] h (PoI r)) (hr_180 : ∀ (x2 : Int) (h : Hp), Lay h → rec 6 [x2] h = some r → X E mX11_fitting (d + 7) (0, 0) (0, 0) 180 [some (xr 11 0), none, some (xi x2), none, none, none, none] [] h (PoI r)) (x1 x2 x3 : Int) (h : Hp) (hL : Lay h) (hF : b_X11_fitting_1 rec x1 x2 x3 h = some r) : X E mX11_fitting (d + 7) (0, 0) (0, 0) 34 [some (xr 11 0), some (xi x1), some (xi x2), some (xi x3), none, none, none] [] h (PoI r) := by
  unfold b_X11_fitting_1 at hF
  refine x_iload_n (i := 1) (b := 35) dX11_fitting_34 rfl rfl rfl ?_
  refine x_aload_n (i := 0) (b := 36) dX11_fitting_35 rfl rfl rfl ?_
  refine x_getL (j := 0) (t := (10, 0, false)) (b := 39) fk_X11_57 dX11_fitting_36 rfl hL rfl rfl rfl ?_
  refine x_getI (v := gI h 10 0 0) (b := 42) fk_X11_195 dX11_fitting_39 (by decide) rfl rfl ?_
  refine x_icmp_gt (tgt := 180) (b := 45) dX11_fitting_42 (by decide) rfl (fun hc => ?_) (fun hc => ?_)
  · replace hF := br_T hc hF
    exact x_dp (ls2 := [some (xr 11 0), none, some (xi x2), none, none, none, none]) ⟨rfl, rfl, trivial⟩ (hr_180 x2 h hL hF)
  · replace hF := br_F hc hF
    refine x_iload_n (i := 3) (b := 46) dX11_fitting_45 rfl rfl rfl ?_
    refine x_iconst (n := 1) (b := 47) dX11_fitting_46 (by decide) rfl ?_
    refine x_aload_n (i := 0) (b := 48) dX11_fitting_47 rfl rfl rfl ?_
    obtain ⟨j1, e_j1, hF⟩ := rf_e hF
    refine x_getR (v := some (0, j1)) (b := 51) fk_X11_20 dX11_fitting_48 rfl e_j1 rfl ?_
    refine x_getI (v := gI h 0 j1 4) (b := 54) fk_X11_237 dX11_fitting_51 (by decide) rfl rfl ?_
    refine x_ishl (b := 55) dX11_fitting_54 rfl ?_
    refine x_icmp_ge (tgt := 180) (b := 58) dX11_fitting_55 (by decide) rfl (fun hc => ?_) (fun hc => ?_)
    · replace hF := br_T hc hF
      exact x_dp (ls2 := [some (xr 11 0), none, some (xi x2), none, none, none, none]) ⟨rfl, rfl, trivial⟩ (hr_180 x2 h hL hF)
    · replace hF := br_F hc hF
      refine x_aload_n (i := 0) (b := 59) dX11_fitting_58 rfl rfl rfl ?_
      refine x_getL (j := 22) (t := (10, 22, false)) (b := 62) fk_X11_92 dX11_fitting_59 rfl hL rfl rfl rfl ?_
      refine x_aload_n (i := 0) (b := 63) dX11_fitting_62 rfl rfl rfl ?_
      obtain ⟨j2, e_j2, hF⟩ := rf_e hF
      refine x_getR (v := some (0, j2)) (b := 66) fk_X11_20 dX11_fitting_63 rfl e_j2 rfl ?_
      obtain ⟨v3, h4, hq, hF⟩ := bd_e hF
      refine x_callV (as := [xr 0 j2]) (rest := []) (b := 69) (c_X10_begin (d + 5) 22 j2 h _ hL hq) dX11_fitting_66 cw_X11_98 ⟨_, _, rfl, Nat.le_of_ble_eq_true rfl⟩ rfl rfl (Nat.le_of_ble_eq_true rfl) ⟨Nat.le_refl _, Nat.le_refl _⟩ rfl (fun rv hh hp _ => ?_)
      obtain ⟨rfl, rfl, hL⟩ := hp
      refine x_aload_n (i := 0) (b := 70) dX11_fitting_69 rfl rfl rfl ?_
      refine x_getL (j := 22) (t := (10, 22, false)) (b := 73) fk_X11_92 dX11_fitting_70 rfl hL rfl rfl rfl ?_
      refine x_iload_n (i := 3) (b := 74) dX11_fitting_73 rfl rfl rfl ?_
      refine x_putI (b := 77) fk_X11_240 dX11_fitting_74 rfl rfl 5 rfl ?_
      obtain ⟨h5, e_h5, hF⟩ := lt_e hF
      refine x_hp (h2 := h5) e_h5 ?_
      replace hL : Lay h5 := by rw [← e_h5]; exact hL
      refine x_iconst (n := 1) (b := 78) dX11_fitting_77 (by decide) rfl ?_
      refine x_istore (i := 4) (b := 80) (ls2 := [some (xr 11 0), some (xi x1), some (xi x2), some (xi x3), some (xi 1), none, none]) dX11_fitting_78 (Nat.le_of_ble_eq_true rfl) rfl rfl ?_
      refine x_iconst (n := 0) (b := 81) dX11_fitting_80 (by decide) rfl ?_
      refine x_istore (i := 5) (b := 83) (ls2 := [some (xr 11 0), some (xi x1), some (xi x2), some (xi x3), some (xi 1), some (xi 0), none]) dX11_fitting_81 (Nat.le_of_ble_eq_true rfl) rfl rfl ?_
      exact x_dp (ls2 := [some (xr 11 0), some (xi x1), some (xi x2), some (xi x3), some (xi 1), some (xi 0), none]) ⟨rfl, rfl, rfl, rfl, rfl, rfl, trivial⟩ (hr_83 x1 x2 x3 1 0 h5 hL hF)
set_option maxHeartbeats 4000000 in
set_option maxRecDepth 100000 in
theorem t_X11_fitting_2 (E : xE) (d : Nat) (rec : Rk) (r : Int × Hp) (hr_151 : ∀ (x1 x2 x3 x5 y0 : Int) (h : Hp), Lay h → rec 3 [x1, x2, x3, x5, y0] h = some r → X E mX11_fitting (d + 7) (0, 0) (0, 0) 151 [some (xr 11 0), some (xi x1), some (xi x2), some (xi x3), none, some (xi x5), none] [xi y0] h (PoI r)) (hr_159 : ∀ (x1 x2 x3 x4 : Int) (h : Hp), Lay h → rec 4 [x1, x2, x3, x4] h = some r → X E mX11_fitting (d + 7) (0, 0) (0, 0) 159 [some (xr 11 0), some (xi x1), some (xi x2), some (xi x3), some (xi x4), none, none] [] h (PoI r)) (x1 x2 x3 x4 x5 : Int) (h : Hp) (hL : Lay h) (hF : b_X11_fitting_2 rec x1 x2 x3 x4 x5 h = some r) : X E mX11_fitting (d + 7) (0, 0) (0, 0) 83 [some (xr 11 0), some (xi x1), some (xi x2), some (xi x3), some (xi x4), some (xi x5), none] [] h (PoI r) := by
  unfold b_X11_fitting_2 at hF
  refine x_iload (i := 4) (b := 85) dX11_fitting_83 rfl rfl ?_
  refine x_if_eq (tgt := 159) (b := 88) dX11_fitting_85 (by decide) rfl (fun hc => ?_) (fun hc => ?_)
  · replace hF := br_T hc hF
    exact x_dp (ls2 := [some (xr 11 0), some (xi x1), some (xi x2), some (xi x3), some (xi x4), none, none]) ⟨rfl, rfl, rfl, rfl, rfl, trivial⟩ (hr_159 x1 x2 x3 x4 h hL hF)
  · replace hF := br_F hc hF
    refine x_iload (i := 5) (b := 90) dX11_fitting_88 rfl rfl ?_
    refine x_iload_n (i := 1) (b := 91) dX11_fitting_90 rfl rfl rfl ?_
    refine x_icmp_ge (tgt := 159) (b := 94) dX11_fitting_91 (by decide) rfl (fun hc => ?_) (fun hc => ?_)
    · replace hF := br_T hc hF
      exact x_dp (ls2 := [some (xr 11 0), some (xi x1), some (xi x2), some (xi x3), some (xi x4), none, none]) ⟨rfl, rfl, rfl, rfl, rfl, trivial⟩ (hr_159 x1 x2 x3 x4 h hL hF)
    · replace hF := br_F hc hF
      refine x_iload (i := 5) (b := 96) dX11_fitting_94 rfl rfl ?_
      refine x_bipush (n := 60) (b := 98) dX11_fitting_96 (by decide) rfl ?_
      refine x_icmp_ge (tgt := 159) (b := 101) dX11_fitting_98 (by decide) rfl (fun hc => ?_) (fun hc => ?_)
      · replace hF := br_T hc hF
        exact x_dp (ls2 := [some (xr 11 0), some (xi x1), some (xi x2), some (xi x3), some (xi x4), none, none]) ⟨rfl, rfl, rfl, rfl, rfl, trivial⟩ (hr_159 x1 x2 x3 x4 h hL hF)
      · replace hF := br_F hc hF
        refine x_aload_n (i := 0) (b := 102) dX11_fitting_101 rfl rfl rfl ?_
        refine x_getL (j := 0) (t := (2, 0, false)) (b := 105) fk_X11_41 dX11_fitting_102 rfl hL rfl rfl rfl ?_
        refine x_aload_n (i := 0) (b := 106) dX11_fitting_105 rfl rfl rfl ?_
        refine x_getL (j := 22) (t := (10, 22, false)) (b := 109) fk_X11_92 dX11_fitting_106 rfl hL rfl rfl rfl ?_
        refine x_aload_n (i := 0) (b := 110) dX11_fitting_109 rfl rfl rfl ?_
        refine x_getL (j := 0) (t := (3, 0, false)) (b := 113) fk_X11_64 dX11_fitting_110 rfl hL rfl rfl rfl ?_
        refine x_getL (j := 0) (t := (38, 0, true)) (b := 116) fk_X11_271 dX11_fitting_113 rfl hL rfl rfl rfl ?_
        refine x_iload (i := 5) (b := 118) dX11_fitting_116 rfl rfl ?_
        obtain ⟨hs, hF⟩ := ck_e hF
        refine x_iald (v := gI h 38 0 x5) (b := 119) ak_38 dX11_fitting_118 hs rfl rfl ?_
        obtain ⟨v1, h2, hq, hF⟩ := bd_e hF
        refine x_callV (as := [xr 10 22, xi (gI h 38 0 x5)]) (rest := []) (b := 122) (c_X2_hold d 22 (gI h 38 0 x5) h _ hL hq) dX11_fitting_119 cw_X11_254 ⟨_, _, rfl, Nat.le_of_ble_eq_true rfl⟩ rfl rfl (Nat.le_of_ble_eq_true rfl) ⟨Nat.le_refl _, Nat.le_refl _⟩ rfl (fun rv hh hp _ => ?_)
        obtain ⟨rfl, rfl, hL⟩ := hp
        refine x_istore (i := 6) (b := 124) (ls2 := [some (xr 11 0), some (xi x1), some (xi x2), some (xi x3), some (xi x4), some (xi x5), some (xi v1)]) dX11_fitting_122 (Nat.le_of_ble_eq_true rfl) rfl rfl ?_
        refine x_aload_n (i := 0) (b := 125) dX11_fitting_124 rfl rfl rfl ?_
        refine x_getL (j := 0) (t := (5, 0, false)) (b := 128) fk_X11_88 dX11_fitting_125 rfl hL rfl rfl rfl ?_
        refine x_iload (i := 5) (b := 130) dX11_fitting_128 rfl rfl ?_
        refine x_iload (i := 6) (b := 132) dX11_fitting_130 rfl rfl ?_
        refine x_aload_n (i := 0) (b := 133) dX11_fitting_132 rfl rfl rfl ?_
        refine x_getL (j := 0) (t := (2, 0, false)) (b := 136) fk_X11_41 dX11_fitting_133 rfl hL rfl rfl rfl ?_
        refine x_getI (v := gI h2 2 0 7) (b := 139) fk_X11_261 dX11_fitting_136 (by decide) rfl rfl ?_
        obtain ⟨v3, h4, hq, hF⟩ := bd_e hF
        refine x_callV (as := [xi x5, xi v1, xi (gI h2 2 0 7)]) (rest := []) (b := 142) (c_X5_firstFalse (d + 3) x5 v1 (gI h2 2 0 7) h2 _ hL hq) dX11_fitting_139 cw_X11_324 ⟨_, _, rfl, Nat.le_of_ble_eq_true rfl⟩ rfl rfl (Nat.le_of_ble_eq_true rfl) ⟨Nat.le_refl _, Nat.le_refl _⟩ rfl (fun rv hh hp _ => ?_)
        obtain ⟨rfl, rfl, hL⟩ := hp
        refine x_iconst (n := (-1)) (b := 143) dX11_fitting_142 (by decide) rfl ?_
        refine x_icmp_ne (tgt := 150) (b := 146) dX11_fitting_143 (by decide) rfl (fun hc => ?_) (fun hc => ?_)
        · replace hF := br_F hc hF
          refine x_iconst (n := 0) (b := 151) dX11_fitting_150 (by decide) rfl ?_
          exact x_dp (ls2 := [some (xr 11 0), some (xi x1), some (xi x2), some (xi x3), none, some (xi x5), none]) ⟨rfl, rfl, rfl, rfl, rfl, trivial⟩ (hr_151 x1 x2 x3 x5 0 h4 hL hF)
        · replace hF := br_T hc hF
          refine x_iconst (n := 1) (b := 147) dX11_fitting_146 (by decide) rfl ?_
          refine x_goto (tgt := 151) dX11_fitting_147 (by decide) ?_
          exact x_dp (ls2 := [some (xr 11 0), some (xi x1), some (xi x2), some (xi x3), none, some (xi x5), none]) ⟨rfl, rfl, rfl, rfl, rfl, trivial⟩ (hr_151 x1 x2 x3 x5 1 h4 hL hF)
set_option maxHeartbeats 4000000 in
set_option maxRecDepth 100000 in
theorem t_X11_fitting_3 (E : xE) (d : Nat) (rec : Rk) (r : Int × Hp) (hr_83 : ∀ (x1 x2 x3 x4 x5 : Int) (h : Hp), Lay h → rec 2 [x1, x2, x3, x4, x5] h = some r → X E mX11_fitting (d + 7) (0, 0) (0, 0) 83 [some (xr 11 0), some (xi x1), some (xi x2), some (xi x3), some (xi x4), some (xi x5), none] [] h (PoI r)) (x1 x2 x3 x5 y0 : Int) (h : Hp) (hL : Lay h) (hF : b_X11_fitting_3 rec x1 x2 x3 x5 y0 h = some r) : X E mX11_fitting (d + 7) (0, 0) (0, 0) 151 [some (xr 11 0), some (xi x1), some (xi x2), some (xi x3), none, some (xi x5), none] [xi y0] h (PoI r) := by
  unfold b_X11_fitting_3 at hF
  refine x_istore (i := 4) (b := 153) (ls2 := [some (xr 11 0), some (xi x1), some (xi x2), some (xi x3), some (xi y0), some (xi x5), none]) dX11_fitting_151 (Nat.le_of_ble_eq_true rfl) rfl rfl ?_
  obtain ⟨hs, hF⟩ := ck_e hF
  refine x_iinc (i := 5) (b := 156) (ls2 := [some (xr 11 0), some (xi x1), some (xi x2), some (xi x3), some (xi y0), some (xi (x5 + 1)), none]) dX11_fitting_153 rfl (Nat.le_of_ble_eq_true rfl) hs rfl rfl ?_
  refine x_goto (tgt := 83) dX11_fitting_156 (by decide) ?_
  exact x_dp (ls2 := [some (xr 11 0), some (xi x1), some (xi x2), some (xi x3), some (xi y0), some (xi (x5 + 1)), none]) ⟨rfl, rfl, rfl, rfl, rfl, rfl, trivial⟩ (hr_83 x1 x2 x3 y0 (x5 + 1) h hL hF)
set_option maxHeartbeats 4000000 in
set_option maxRecDepth 100000 in
theorem t_X11_fitting_4 (E : xE) (d : Nat) (rec : Rk) (r : Int × Hp) (hr_172 : ∀ (x1 x3 y0 y1 : Int) (h : Hp), Lay h → rec 5 [x1, x3, y0, y1] h = some r → X E mX11_fitting (d + 7) (0, 0) (0, 0) 172 [some (xr 11 0), some (xi x1), none, some (xi x3), none, none, none] [xi y0, xi y1] h (PoI r)) (x1 x2 x3 x4 : Int) (h : Hp) (hL : Lay h) (hF : b_X11_fitting_4 rec x1 x2 x3 x4 h = some r) : X E mX11_fitting (d + 7) (0, 0) (0, 0) 159 [some (xr 11 0), some (xi x1), some (xi x2), some (xi x3), some (xi x4), none, none] [] h (PoI r) := by
  unfold b_X11_fitting_4 at hF
  refine x_iload_n (i := 2) (b := 160) dX11_fitting_159 rfl rfl rfl ?_
  refine x_iload (i := 4) (b := 162) dX11_fitting_160 rfl rfl ?_
  refine x_if_eq (tgt := 171) (b := 165) dX11_fitting_162 (by decide) rfl (fun hc => ?_) (fun hc => ?_)
  · replace hF := br_T hc hF
    refine x_iconst (n := 0) (b := 172) dX11_fitting_171 (by decide) rfl ?_
    exact x_dp (ls2 := [some (xr 11 0), some (xi x1), none, some (xi x3), none, none, none]) ⟨rfl, rfl, rfl, trivial⟩ (hr_172 x1 x3 0 x2 h hL hF)
  · replace hF := br_F hc hF
    refine x_iconst (n := 1) (b := 166) dX11_fitting_165 (by decide) rfl ?_
    refine x_iload_n (i := 3) (b := 167) dX11_fitting_166 rfl rfl rfl ?_
    refine x_ishl (b := 168) dX11_fitting_167 rfl ?_
    refine x_goto (tgt := 172) dX11_fitting_168 (by decide) ?_
    exact x_dp (ls2 := [some (xr 11 0), some (xi x1), none, some (xi x3), none, none, none]) ⟨rfl, rfl, rfl, trivial⟩ (hr_172 x1 x3 (bshl 1 x3) x2 h hL hF)
set_option maxHeartbeats 4000000 in
set_option maxRecDepth 100000 in
theorem t_X11_fitting_5 (E : xE) (d : Nat) (rec : Rk) (r : Int × Hp) (hr_34 : ∀ (x1 x2 x3 : Int) (h : Hp), Lay h → rec 1 [x1, x2, x3] h = some r → X E mX11_fitting (d + 7) (0, 0) (0, 0) 34 [some (xr 11 0), some (xi x1), some (xi x2), some (xi x3), none, none, none] [] h (PoI r)) (x1 x3 y0 y1 : Int) (h : Hp) (hL : Lay h) (hF : b_X11_fitting_5 rec x1 x3 y0 y1 h = some r) : X E mX11_fitting (d + 7) (0, 0) (0, 0) 172 [some (xr 11 0), some (xi x1), none, some (xi x3), none, none, none] [xi y0, xi y1] h (PoI r) := by
  unfold b_X11_fitting_5 at hF
  refine x_ior (b := 173) dX11_fitting_172 rfl ?_
  obtain ⟨z1, e_z1, hF⟩ := lt_e hF
  refine x_eq (y := z1) e_z1 ?_
  refine x_istore_n (i := 2) (b := 174) (ls2 := [some (xr 11 0), some (xi x1), some (xi z1), some (xi x3), none, none, none]) dX11_fitting_173 rfl (Nat.le_of_ble_eq_true rfl) rfl rfl ?_
  obtain ⟨hs, hF⟩ := ck_e hF
  refine x_iinc (i := 3) (b := 177) (ls2 := [some (xr 11 0), some (xi x1), some (xi z1), some (xi (x3 + 1)), none, none, none]) dX11_fitting_174 rfl (Nat.le_of_ble_eq_true rfl) hs rfl rfl ?_
  refine x_goto (tgt := 34) dX11_fitting_177 (by decide) ?_
  exact x_dp (ls2 := [some (xr 11 0), some (xi x1), some (xi z1), some (xi (x3 + 1)), none, none, none]) ⟨rfl, rfl, rfl, rfl, trivial⟩ (hr_34 x1 z1 (x3 + 1) h hL hF)
set_option maxHeartbeats 4000000 in
set_option maxRecDepth 100000 in
theorem t_X11_fitting_6 (E : xE) (d : Nat) (rec : Rk) (r : Int × Hp) (x2 : Int) (h : Hp) (hL : Lay h) (hF : b_X11_fitting_6 rec x2 h = some r) : X E mX11_fitting (d + 7) (0, 0) (0, 0) 180 [some (xr 11 0), none, some (xi x2), none, none, none, none] [] h (PoI r) := by
  unfold b_X11_fitting_6 at hF
  refine x_aload_n (i := 0) (b := 181) dX11_fitting_180 rfl rfl rfl ?_
  refine x_iload_n (i := 2) (b := 182) dX11_fitting_181 rfl rfl rfl ?_
  refine x_putI (b := 185) fk_X11_95 dX11_fitting_182 rfl rfl 16 rfl ?_
  obtain ⟨h1, e_h1, hF⟩ := lt_e hF
  refine x_hp (h2 := h1) e_h1 ?_
  replace hL : Lay h1 := by rw [← e_h1]; exact hL
  refine x_iload_n (i := 2) (b := 186) dX11_fitting_185 rfl rfl rfl ?_
  refine x_ireturn dX11_fitting_186 rfl ⟨Nat.le_refl _, Nat.le_refl _⟩ ?_
  cases hF
  exact ⟨rfl, rfl, hL⟩
set_option maxHeartbeats 4000000 in
set_option maxRecDepth 100000 in
theorem u_X11_fitting (E : xE) (d : Nat) (r : Int × Hp) : ∀ n : Nat, (∀ (h : Hp), Lay h → g_X11_fitting n 0 [] h = some r → X E mX11_fitting (d + 7) (0, 0) (0, 0) 0 [some (xr 11 0), none, none, none, none, none, none] [] h (PoI r)) ∧ (∀ (x1 x2 x3 : Int) (h : Hp), Lay h → g_X11_fitting n 1 [x1, x2, x3] h = some r → X E mX11_fitting (d + 7) (0, 0) (0, 0) 34 [some (xr 11 0), some (xi x1), some (xi x2), some (xi x3), none, none, none] [] h (PoI r)) ∧ (∀ (x1 x2 x3 x4 x5 : Int) (h : Hp), Lay h → g_X11_fitting n 2 [x1, x2, x3, x4, x5] h = some r → X E mX11_fitting (d + 7) (0, 0) (0, 0) 83 [some (xr 11 0), some (xi x1), some (xi x2), some (xi x3), some (xi x4), some (xi x5), none] [] h (PoI r)) ∧ (∀ (x1 x2 x3 x5 y0 : Int) (h : Hp), Lay h → g_X11_fitting n 3 [x1, x2, x3, x5, y0] h = some r → X E mX11_fitting (d + 7) (0, 0) (0, 0) 151 [some (xr 11 0), some (xi x1), some (xi x2), some (xi x3), none, some (xi x5), none] [xi y0] h (PoI r)) ∧ (∀ (x1 x2 x3 x4 : Int) (h : Hp), Lay h → g_X11_fitting n 4 [x1, x2, x3, x4] h = some r → X E mX11_fitting (d + 7) (0, 0) (0, 0) 159 [some (xr 11 0), some (xi x1), some (xi x2), some (xi x3), some (xi x4), none, none] [] h (PoI r)) ∧ (∀ (x1 x3 y0 y1 : Int) (h : Hp), Lay h → g_X11_fitting n 5 [x1, x3, y0, y1] h = some r → X E mX11_fitting (d + 7) (0, 0) (0, 0) 172 [some (xr 11 0), some (xi x1), none, some (xi x3), none, none, none] [xi y0, xi y1] h (PoI r)) ∧ (∀ (x2 : Int) (h : Hp), Lay h → g_X11_fitting n 6 [x2] h = some r → X E mX11_fitting (d + 7) (0, 0) (0, 0) 180 [some (xr 11 0), none, some (xi x2), none, none, none, none] [] h (PoI r)) := by
  intro n
  induction n with
  | zero => exact ⟨fun _ _ hF => no_e (r := r) hF, fun _ _ _ _ _ hF => no_e (r := r) hF, fun _ _ _ _ _ _ _ hF => no_e (r := r) hF, fun _ _ _ _ _ _ _ hF => no_e (r := r) hF, fun _ _ _ _ _ _ hF => no_e (r := r) hF, fun _ _ _ _ _ _ hF => no_e (r := r) hF, fun _ _ _ hF => no_e (r := r) hF⟩
  | succ n ih => exact ⟨fun h hL hF => t_X11_fitting_0 E d (g_X11_fitting n) r ih.2.1  h hL hF, fun x1 x2 x3 h hL hF => t_X11_fitting_1 E d (g_X11_fitting n) r ih.2.2.1 ih.2.2.2.2.2.2 x1 x2 x3 h hL hF, fun x1 x2 x3 x4 x5 h hL hF => t_X11_fitting_2 E d (g_X11_fitting n) r ih.2.2.2.1 ih.2.2.2.2.1 x1 x2 x3 x4 x5 h hL hF, fun x1 x2 x3 x5 y0 h hL hF => t_X11_fitting_3 E d (g_X11_fitting n) r ih.2.2.1 x1 x2 x3 x5 y0 h hL hF, fun x1 x2 x3 x4 h hL hF => t_X11_fitting_4 E d (g_X11_fitting n) r ih.2.2.2.2.2.1 x1 x2 x3 x4 h hL hF, fun x1 x3 y0 y1 h hL hF => t_X11_fitting_5 E d (g_X11_fitting n) r ih.2.1 x1 x3 y0 y1 h hL hF, fun x2 h hL hF => t_X11_fitting_6 E d (g_X11_fitting n) r  x2 h hL hF⟩
theorem c_X11_fitting (d : Nat) (h : Hp) (r : Int × Hp) (hL : Lay h) (hF : f_X11_fitting  h = some r) : Sp mX11_fitting (d + 7) (0, 0) [xr 11 0] h (PoI r) :=
  sp_of (by decide) rfl (Nat.le_of_ble_eq_true rfl) (ls := [some (xr 11 0), none, none, none, none, none, none]) rfl (fun E _ => (u_X11_fitting E d r FU).1  h hL hF)
theorem dX11_holdMeal_0 : decode cX11_holdMeal 0 = .ok (.aload_n 0, 1) := by decide +kernel
theorem dX11_holdMeal_1 : decode cX11_holdMeal 1 = .ok (.getfield 57, 3) := by decide +kernel
theorem dX11_holdMeal_4 : decode cX11_holdMeal 4 = .ok (.getfield 195, 3) := by decide +kernel
theorem dX11_holdMeal_7 : decode cX11_holdMeal 7 = .ok (.istore_n 1, 1) := by decide +kernel
theorem dX11_holdMeal_8 : decode cX11_holdMeal 8 = .ok (.iload_n 1, 1) := by decide +kernel
theorem dX11_holdMeal_9 : decode cX11_holdMeal 9 = .ok (.ifCond .lt 9, 3) := by decide +kernel
theorem dX11_holdMeal_12 : decode cX11_holdMeal 12 = .ok (.iload_n 1, 1) := by decide +kernel
theorem dX11_holdMeal_13 : decode cX11_holdMeal 13 = .ok (.bipush 60, 2) := by decide +kernel
theorem dX11_holdMeal_15 : decode cX11_holdMeal 15 = .ok (.if_icmp .lt 4, 3) := by decide +kernel
theorem dX11_holdMeal_18 : decode cX11_holdMeal 18 = .ok (.return_, 1) := by decide +kernel
theorem dX11_holdMeal_19 : decode cX11_holdMeal 19 = .ok (.aload_n 0, 1) := by decide +kernel
theorem dX11_holdMeal_20 : decode cX11_holdMeal 20 = .ok (.getfield 68, 3) := by decide +kernel
theorem dX11_holdMeal_23 : decode cX11_holdMeal 23 = .ok (.iload_n 1, 1) := by decide +kernel
theorem dX11_holdMeal_24 : decode cX11_holdMeal 24 = .ok (.bipush 20, 2) := by decide +kernel
theorem dX11_holdMeal_26 : decode cX11_holdMeal 26 = .ok (.irem, 1) := by decide +kernel
theorem dX11_holdMeal_27 : decode cX11_holdMeal 27 = .ok (.aaload, 1) := by decide +kernel
theorem dX11_holdMeal_28 : decode cX11_holdMeal 28 = .ok (.aload_n 0, 1) := by decide +kernel
theorem dX11_holdMeal_29 : decode cX11_holdMeal 29 = .ok (.getfield 57, 3) := by decide +kernel
theorem dX11_holdMeal_32 : decode cX11_holdMeal 32 = .ok (.invokevirtual 246, 3) := by decide +kernel
theorem dX11_holdMeal_35 : decode cX11_holdMeal 35 = .ok (.aload_n 0, 1) := by decide +kernel
theorem dX11_holdMeal_36 : decode cX11_holdMeal 36 = .ok (.bipush 20, 2) := by decide +kernel
theorem dX11_holdMeal_38 : decode cX11_holdMeal 38 = .ok (.aload_n 0, 1) := by decide +kernel
theorem dX11_holdMeal_39 : decode cX11_holdMeal 39 = .ok (.getfield 72, 3) := by decide +kernel
theorem dX11_holdMeal_42 : decode cX11_holdMeal 42 = .ok (.iconst 1, 1) := by decide +kernel
theorem dX11_holdMeal_43 : decode cX11_holdMeal 43 = .ok (.iadd, 1) := by decide +kernel
theorem dX11_holdMeal_44 : decode cX11_holdMeal 44 = .ok (.invokestatic 249, 3) := by decide +kernel
theorem dX11_holdMeal_47 : decode cX11_holdMeal 47 = .ok (.putfield 72, 3) := by decide +kernel
theorem dX11_holdMeal_50 : decode cX11_holdMeal 50 = .ok (.aload_n 0, 1) := by decide +kernel
theorem dX11_holdMeal_51 : decode cX11_holdMeal 51 = .ok (.getfield 41, 3) := by decide +kernel
theorem dX11_holdMeal_54 : decode cX11_holdMeal 54 = .ok (.aload_n 0, 1) := by decide +kernel
theorem dX11_holdMeal_55 : decode cX11_holdMeal 55 = .ok (.getfield 57, 3) := by decide +kernel
theorem dX11_holdMeal_58 : decode cX11_holdMeal 58 = .ok (.aload_n 0, 1) := by decide +kernel
theorem dX11_holdMeal_59 : decode cX11_holdMeal 59 = .ok (.getfield 57, 3) := by decide +kernel
theorem dX11_holdMeal_62 : decode cX11_holdMeal 62 = .ok (.getfield 161, 3) := by decide +kernel
theorem dX11_holdMeal_65 : decode cX11_holdMeal 65 = .ok (.invokevirtual 254, 3) := by decide +kernel
theorem dX11_holdMeal_68 : decode cX11_holdMeal 68 = .ok (.istore_n 2, 1) := by decide +kernel
theorem dX11_holdMeal_69 : decode cX11_holdMeal 69 = .ok (.aload_n 0, 1) := by decide +kernel
theorem dX11_holdMeal_70 : decode cX11_holdMeal 70 = .ok (.getfield 64, 3) := by decide +kernel
theorem dX11_holdMeal_73 : decode cX11_holdMeal 73 = .ok (.getfield 257, 3) := by decide +kernel
theorem dX11_holdMeal_76 : decode cX11_holdMeal 76 = .ok (.iload_n 1, 1) := by decide +kernel
theorem dX11_holdMeal_77 : decode cX11_holdMeal 77 = .ok (.iload_n 2, 1) := by decide +kernel
theorem dX11_holdMeal_78 : decode cX11_holdMeal 78 = .ok (.iastore, 1) := by decide +kernel
theorem dX11_holdMeal_79 : decode cX11_holdMeal 79 = .ok (.aload_n 0, 1) := by decide +kernel
theorem dX11_holdMeal_80 : decode cX11_holdMeal 80 = .ok (.getfield 64, 3) := by decide +kernel
theorem dX11_holdMeal_83 : decode cX11_holdMeal 83 = .ok (.getfield 260, 3) := by decide +kernel
theorem dX11_holdMeal_86 : decode cX11_holdMeal 86 = .ok (.iload_n 1, 1) := by decide +kernel
theorem dX11_holdMeal_87 : decode cX11_holdMeal 87 = .ok (.aload_n 0, 1) := by decide +kernel
theorem dX11_holdMeal_88 : decode cX11_holdMeal 88 = .ok (.getfield 41, 3) := by decide +kernel
theorem dX11_holdMeal_91 : decode cX11_holdMeal 91 = .ok (.getfield 261, 3) := by decide +kernel
theorem dX11_holdMeal_94 : decode cX11_holdMeal 94 = .ok (.iastore, 1) := by decide +kernel
theorem dX11_holdMeal_95 : decode cX11_holdMeal 95 = .ok (.aload_n 0, 1) := by decide +kernel
theorem dX11_holdMeal_96 : decode cX11_holdMeal 96 = .ok (.getfield 64, 3) := by decide +kernel
theorem dX11_holdMeal_99 : decode cX11_holdMeal 99 = .ok (.getfield 264, 3) := by decide +kernel
theorem dX11_holdMeal_102 : decode cX11_holdMeal 102 = .ok (.iload_n 1, 1) := by decide +kernel
theorem dX11_holdMeal_103 : decode cX11_holdMeal 103 = .ok (.aload_n 0, 1) := by decide +kernel
theorem dX11_holdMeal_104 : decode cX11_holdMeal 104 = .ok (.getfield 57, 3) := by decide +kernel
theorem dX11_holdMeal_107 : decode cX11_holdMeal 107 = .ok (.getfield 173, 3) := by decide +kernel
theorem dX11_holdMeal_110 : decode cX11_holdMeal 110 = .ok (.iastore, 1) := by decide +kernel
theorem dX11_holdMeal_111 : decode cX11_holdMeal 111 = .ok (.aload_n 0, 1) := by decide +kernel
theorem dX11_holdMeal_112 : decode cX11_holdMeal 112 = .ok (.getfield 64, 3) := by decide +kernel
theorem dX11_holdMeal_115 : decode cX11_holdMeal 115 = .ok (.getfield 266, 3) := by decide +kernel
theorem dX11_holdMeal_118 : decode cX11_holdMeal 118 = .ok (.iload_n 1, 1) := by decide +kernel
theorem dX11_holdMeal_119 : decode cX11_holdMeal 119 = .ok (.aload_n 0, 1) := by decide +kernel
theorem dX11_holdMeal_120 : decode cX11_holdMeal 120 = .ok (.getfield 41, 3) := by decide +kernel
theorem dX11_holdMeal_123 : decode cX11_holdMeal 123 = .ok (.getfield 269, 3) := by decide +kernel
theorem dX11_holdMeal_126 : decode cX11_holdMeal 126 = .ok (.iastore, 1) := by decide +kernel
theorem dX11_holdMeal_127 : decode cX11_holdMeal 127 = .ok (.aload_n 0, 1) := by decide +kernel
theorem dX11_holdMeal_128 : decode cX11_holdMeal 128 = .ok (.getfield 64, 3) := by decide +kernel
theorem dX11_holdMeal_131 : decode cX11_holdMeal 131 = .ok (.getfield 271, 3) := by decide +kernel
theorem dX11_holdMeal_134 : decode cX11_holdMeal 134 = .ok (.iload_n 1, 1) := by decide +kernel
theorem dX11_holdMeal_135 : decode cX11_holdMeal 135 = .ok (.aload_n 0, 1) := by decide +kernel
theorem dX11_holdMeal_136 : decode cX11_holdMeal 136 = .ok (.getfield 57, 3) := by decide +kernel
theorem dX11_holdMeal_139 : decode cX11_holdMeal 139 = .ok (.getfield 161, 3) := by decide +kernel
theorem dX11_holdMeal_142 : decode cX11_holdMeal 142 = .ok (.iastore, 1) := by decide +kernel
theorem dX11_holdMeal_143 : decode cX11_holdMeal 143 = .ok (.aload_n 0, 1) := by decide +kernel
theorem dX11_holdMeal_144 : decode cX11_holdMeal 144 = .ok (.iconst (-1), 1) := by decide +kernel
theorem dX11_holdMeal_145 : decode cX11_holdMeal 145 = .ok (.putfield 95, 3) := by decide +kernel
theorem dX11_holdMeal_148 : decode cX11_holdMeal 148 = .ok (.return_, 1) := by decide +kernel
noncomputable def b_X11_holdMeal_0 (rec : Rk) (h : Hp) : Option (Int × Hp) :=
  lt (gI h 10 0 0) fun z1 =>
  if z1 < 0 then (
    some (0, h)
  ) else (
    if z1 < 60 then (
      ck ((0 : Int) ≤ z1 ∧ (0 : Int) < 20) <|
      ck (0 ≤ (z1 % 20) ∧ (z1 % 20) < 20) <|
      rf (gR h 59 0 (z1 % 20)) 10 fun j2 =>
      bd (f_X10_copyFrom j2 0 h) fun v3 h4 =>
      ck (-2147483648 ≤ (gI h4 11 0 10) + 1 ∧ (gI h4 11 0 10) + 1 < 2147483648) <|
      lt (sI h4 11 0 10 (min 20 ((gI h4 11 0 10) + 1))) fun h5 =>
      bd (f_X2_hold 0 (gI h5 10 0 4) h5) fun v6 h7 =>
      ck (0 ≤ z1 ∧ z1 < 60) <|
      lt (sI h7 34 0 z1 v6) fun h8 =>
      ck (0 ≤ z1 ∧ z1 < 60) <|
      lt (sI h8 35 0 z1 (gI h8 2 0 7)) fun h9 =>
      ck (0 ≤ z1 ∧ z1 < 60) <|
      lt (sI h9 36 0 z1 (gI h9 10 0 1)) fun h10 =>
      ck (0 ≤ z1 ∧ z1 < 60) <|
      lt (sI h10 37 0 z1 (gI h10 2 0 8)) fun h11 =>
      ck (0 ≤ z1 ∧ z1 < 60) <|
      lt (sI h11 38 0 z1 (gI h11 10 0 4)) fun h12 =>
      lt (sI h12 11 0 16 (-1)) fun h13 =>
      some (0, h13)
    ) else (
      some (0, h)
    )
  )
noncomputable def g_X11_holdMeal (n : Nat) : Rk := Nat.rec (motive := fun _ => Rk) (fun _ _ _ => none) (fun _ rec k l h => if k = 0 then b_X11_holdMeal_0 rec  h else none) n
noncomputable def f_X11_holdMeal (h : Hp) : Option (Int × Hp) := g_X11_holdMeal FU 0 [] h
set_option maxHeartbeats 4000000 in
set_option maxRecDepth 100000 in
theorem t_X11_holdMeal_0 (E : xE) (d : Nat) (rec : Rk) (r : Int × Hp) (h : Hp) (hL : Lay h) (hF : b_X11_holdMeal_0 rec  h = some r) : X E mX11_holdMeal (d + 7) (0, 0) (0, 0) 0 [some (xr 11 0), none, none] [] h (PoV r) := by
  unfold b_X11_holdMeal_0 at hF
  refine x_aload_n (i := 0) (b := 1) dX11_holdMeal_0 rfl rfl rfl ?_
  refine x_getL (j := 0) (t := (10, 0, false)) (b := 4) fk_X11_57 dX11_holdMeal_1 rfl hL rfl rfl rfl ?_
  refine x_getI (v := gI h 10 0 0) (b := 7) fk_X11_195 dX11_holdMeal_4 (by decide) rfl rfl ?_
  obtain ⟨z1, e_z1, hF⟩ := lt_e hF
  refine x_eq (y := z1) e_z1 ?_
  refine x_istore_n (i := 1) (b := 8) (ls2 := [some (xr 11 0), some (xi z1), none]) dX11_holdMeal_7 rfl (Nat.le_of_ble_eq_true rfl) rfl rfl ?_
  refine x_iload_n (i := 1) (b := 9) dX11_holdMeal_8 rfl rfl rfl ?_
  refine x_if_lt (tgt := 18) (b := 12) dX11_holdMeal_9 (by decide) rfl (fun hc => ?_) (fun hc => ?_)
  · replace hF := br_T hc hF
    refine x_return dX11_holdMeal_18 rfl ⟨Nat.le_refl _, Nat.le_refl _⟩ ?_
    cases hF
    exact ⟨rfl, rfl, hL⟩
  · replace hF := br_F hc hF
    refine x_iload_n (i := 1) (b := 13) dX11_holdMeal_12 rfl rfl rfl ?_
    refine x_bipush (n := 60) (b := 15) dX11_holdMeal_13 (by decide) rfl ?_
    refine x_icmp_lt (tgt := 19) (b := 18) dX11_holdMeal_15 (by decide) rfl (fun hc => ?_) (fun hc => ?_)
    · replace hF := br_T hc hF
      refine x_aload_n (i := 0) (b := 20) dX11_holdMeal_19 rfl rfl rfl ?_
      refine x_getL (j := 0) (t := (59, 0, true)) (b := 23) fk_X11_68 dX11_holdMeal_20 rfl hL rfl rfl rfl ?_
      refine x_iload_n (i := 1) (b := 24) dX11_holdMeal_23 rfl rfl rfl ?_
      refine x_bipush (n := 20) (b := 26) dX11_holdMeal_24 (by decide) rfl ?_
      obtain ⟨hs, hF⟩ := ck_e hF
      refine x_irem (b := 27) dX11_holdMeal_26 hs.1 hs.2 rfl ?_
      obtain ⟨hs, hF⟩ := ck_e hF
      obtain ⟨j2, e_j2, hF⟩ := rf_e hF
      refine x_aaldV (v := some (10, j2)) (b := 28) ak_59 dX11_holdMeal_27 hs e_j2 rfl ?_
      refine x_aload_n (i := 0) (b := 29) dX11_holdMeal_28 rfl rfl rfl ?_
      refine x_getL (j := 0) (t := (10, 0, false)) (b := 32) fk_X11_57 dX11_holdMeal_29 rfl hL rfl rfl rfl ?_
      obtain ⟨v3, h4, hq, hF⟩ := bd_e hF
      refine x_callV (as := [xr 10 0]) (rest := []) (b := 35) (c_X10_copyFrom (d + 5) j2 0 h _ hL hq) dX11_holdMeal_32 cw_X11_246 ⟨_, _, rfl, Nat.le_of_ble_eq_true rfl⟩ rfl rfl (Nat.le_of_ble_eq_true rfl) ⟨Nat.le_refl _, Nat.le_refl _⟩ rfl (fun rv hh hp _ => ?_)
      obtain ⟨rfl, rfl, hL⟩ := hp
      refine x_aload_n (i := 0) (b := 36) dX11_holdMeal_35 rfl rfl rfl ?_
      refine x_bipush (n := 20) (b := 38) dX11_holdMeal_36 (by decide) rfl ?_
      refine x_aload_n (i := 0) (b := 39) dX11_holdMeal_38 rfl rfl rfl ?_
      refine x_getI (v := gI h4 11 0 10) (b := 42) fk_X11_72 dX11_holdMeal_39 (by decide) rfl rfl ?_
      refine x_iconst (n := 1) (b := 43) dX11_holdMeal_42 (by decide) rfl ?_
      obtain ⟨hs, hF⟩ := ck_e hF
      refine x_iadd (b := 44) dX11_holdMeal_43 hs rfl ?_
      refine x_min (b := 47) dX11_holdMeal_44 mw_X11_249 (Nat.le_of_ble_eq_true rfl) ⟨Nat.le_refl _, Nat.le_refl _⟩ rfl ?_
      refine x_putI (b := 50) fk_X11_72 dX11_holdMeal_47 rfl rfl 10 rfl ?_
      obtain ⟨h5, e_h5, hF⟩ := lt_e hF
      refine x_hp (h2 := h5) e_h5 ?_
      replace hL : Lay h5 := by rw [← e_h5]; exact hL
      refine x_aload_n (i := 0) (b := 51) dX11_holdMeal_50 rfl rfl rfl ?_
      refine x_getL (j := 0) (t := (2, 0, false)) (b := 54) fk_X11_41 dX11_holdMeal_51 rfl hL rfl rfl rfl ?_
      refine x_aload_n (i := 0) (b := 55) dX11_holdMeal_54 rfl rfl rfl ?_
      refine x_getL (j := 0) (t := (10, 0, false)) (b := 58) fk_X11_57 dX11_holdMeal_55 rfl hL rfl rfl rfl ?_
      refine x_aload_n (i := 0) (b := 59) dX11_holdMeal_58 rfl rfl rfl ?_
      refine x_getL (j := 0) (t := (10, 0, false)) (b := 62) fk_X11_57 dX11_holdMeal_59 rfl hL rfl rfl rfl ?_
      refine x_getI (v := gI h5 10 0 4) (b := 65) fk_X11_161 dX11_holdMeal_62 (by decide) rfl rfl ?_
      obtain ⟨v6, h7, hq, hF⟩ := bd_e hF
      refine x_callV (as := [xr 10 0, xi (gI h5 10 0 4)]) (rest := []) (b := 68) (c_X2_hold d 0 (gI h5 10 0 4) h5 _ hL hq) dX11_holdMeal_65 cw_X11_254 ⟨_, _, rfl, Nat.le_of_ble_eq_true rfl⟩ rfl rfl (Nat.le_of_ble_eq_true rfl) ⟨Nat.le_refl _, Nat.le_refl _⟩ rfl (fun rv hh hp _ => ?_)
      obtain ⟨rfl, rfl, hL⟩ := hp
      refine x_istore_n (i := 2) (b := 69) (ls2 := [some (xr 11 0), some (xi z1), some (xi v6)]) dX11_holdMeal_68 rfl (Nat.le_of_ble_eq_true rfl) rfl rfl ?_
      refine x_aload_n (i := 0) (b := 70) dX11_holdMeal_69 rfl rfl rfl ?_
      refine x_getL (j := 0) (t := (3, 0, false)) (b := 73) fk_X11_64 dX11_holdMeal_70 rfl hL rfl rfl rfl ?_
      refine x_getL (j := 0) (t := (34, 0, true)) (b := 76) fk_X11_257 dX11_holdMeal_73 rfl hL rfl rfl rfl ?_
      refine x_iload_n (i := 1) (b := 77) dX11_holdMeal_76 rfl rfl rfl ?_
      refine x_iload_n (i := 2) (b := 78) dX11_holdMeal_77 rfl rfl rfl ?_
      obtain ⟨hs, hF⟩ := ck_e hF
      have hs1 := hs
      refine x_iast (b := 79) ak_34 dX11_holdMeal_78 hs1 rfl ?_
      obtain ⟨h8, e_h8, hF⟩ := lt_e hF
      refine x_hp (h2 := h8) e_h8 ?_
      replace hL : Lay h8 := by rw [← e_h8]; exact hL
      refine x_aload_n (i := 0) (b := 80) dX11_holdMeal_79 rfl rfl rfl ?_
      refine x_getL (j := 0) (t := (3, 0, false)) (b := 83) fk_X11_64 dX11_holdMeal_80 rfl hL rfl rfl rfl ?_
      refine x_getL (j := 0) (t := (35, 0, true)) (b := 86) fk_X11_260 dX11_holdMeal_83 rfl hL rfl rfl rfl ?_
      refine x_iload_n (i := 1) (b := 87) dX11_holdMeal_86 rfl rfl rfl ?_
      refine x_aload_n (i := 0) (b := 88) dX11_holdMeal_87 rfl rfl rfl ?_
      refine x_getL (j := 0) (t := (2, 0, false)) (b := 91) fk_X11_41 dX11_holdMeal_88 rfl hL rfl rfl rfl ?_
      refine x_getI (v := gI h8 2 0 7) (b := 94) fk_X11_261 dX11_holdMeal_91 (by decide) rfl rfl ?_
      obtain ⟨hs, hF⟩ := ck_e hF
      have hs1 := hs
      refine x_iast (b := 95) ak_35 dX11_holdMeal_94 hs1 rfl ?_
      obtain ⟨h9, e_h9, hF⟩ := lt_e hF
      refine x_hp (h2 := h9) e_h9 ?_
      replace hL : Lay h9 := by rw [← e_h9]; exact hL
      refine x_aload_n (i := 0) (b := 96) dX11_holdMeal_95 rfl rfl rfl ?_
      refine x_getL (j := 0) (t := (3, 0, false)) (b := 99) fk_X11_64 dX11_holdMeal_96 rfl hL rfl rfl rfl ?_
      refine x_getL (j := 0) (t := (36, 0, true)) (b := 102) fk_X11_264 dX11_holdMeal_99 rfl hL rfl rfl rfl ?_
      refine x_iload_n (i := 1) (b := 103) dX11_holdMeal_102 rfl rfl rfl ?_
      refine x_aload_n (i := 0) (b := 104) dX11_holdMeal_103 rfl rfl rfl ?_
      refine x_getL (j := 0) (t := (10, 0, false)) (b := 107) fk_X11_57 dX11_holdMeal_104 rfl hL rfl rfl rfl ?_
      refine x_getI (v := gI h9 10 0 1) (b := 110) fk_X11_173 dX11_holdMeal_107 (by decide) rfl rfl ?_
      obtain ⟨hs, hF⟩ := ck_e hF
      have hs1 := hs
      refine x_iast (b := 111) ak_36 dX11_holdMeal_110 hs1 rfl ?_
      obtain ⟨h10, e_h10, hF⟩ := lt_e hF
      refine x_hp (h2 := h10) e_h10 ?_
      replace hL : Lay h10 := by rw [← e_h10]; exact hL
      refine x_aload_n (i := 0) (b := 112) dX11_holdMeal_111 rfl rfl rfl ?_
      refine x_getL (j := 0) (t := (3, 0, false)) (b := 115) fk_X11_64 dX11_holdMeal_112 rfl hL rfl rfl rfl ?_
      refine x_getL (j := 0) (t := (37, 0, true)) (b := 118) fk_X11_266 dX11_holdMeal_115 rfl hL rfl rfl rfl ?_
      refine x_iload_n (i := 1) (b := 119) dX11_holdMeal_118 rfl rfl rfl ?_
      refine x_aload_n (i := 0) (b := 120) dX11_holdMeal_119 rfl rfl rfl ?_
      refine x_getL (j := 0) (t := (2, 0, false)) (b := 123) fk_X11_41 dX11_holdMeal_120 rfl hL rfl rfl rfl ?_
      refine x_getI (v := gI h10 2 0 8) (b := 126) fk_X11_269 dX11_holdMeal_123 (by decide) rfl rfl ?_
      obtain ⟨hs, hF⟩ := ck_e hF
      have hs1 := hs
      refine x_iast (b := 127) ak_37 dX11_holdMeal_126 hs1 rfl ?_
      obtain ⟨h11, e_h11, hF⟩ := lt_e hF
      refine x_hp (h2 := h11) e_h11 ?_
      replace hL : Lay h11 := by rw [← e_h11]; exact hL
      refine x_aload_n (i := 0) (b := 128) dX11_holdMeal_127 rfl rfl rfl ?_
      refine x_getL (j := 0) (t := (3, 0, false)) (b := 131) fk_X11_64 dX11_holdMeal_128 rfl hL rfl rfl rfl ?_
      refine x_getL (j := 0) (t := (38, 0, true)) (b := 134) fk_X11_271 dX11_holdMeal_131 rfl hL rfl rfl rfl ?_
      refine x_iload_n (i := 1) (b := 135) dX11_holdMeal_134 rfl rfl rfl ?_
      refine x_aload_n (i := 0) (b := 136) dX11_holdMeal_135 rfl rfl rfl ?_
      refine x_getL (j := 0) (t := (10, 0, false)) (b := 139) fk_X11_57 dX11_holdMeal_136 rfl hL rfl rfl rfl ?_
      refine x_getI (v := gI h11 10 0 4) (b := 142) fk_X11_161 dX11_holdMeal_139 (by decide) rfl rfl ?_
      obtain ⟨hs, hF⟩ := ck_e hF
      have hs1 := hs
      refine x_iast (b := 143) ak_38 dX11_holdMeal_142 hs1 rfl ?_
      obtain ⟨h12, e_h12, hF⟩ := lt_e hF
      refine x_hp (h2 := h12) e_h12 ?_
      replace hL : Lay h12 := by rw [← e_h12]; exact hL
      refine x_aload_n (i := 0) (b := 144) dX11_holdMeal_143 rfl rfl rfl ?_
      refine x_iconst (n := (-1)) (b := 145) dX11_holdMeal_144 (by decide) rfl ?_
      refine x_putI (b := 148) fk_X11_95 dX11_holdMeal_145 rfl rfl 16 rfl ?_
      obtain ⟨h13, e_h13, hF⟩ := lt_e hF
      refine x_hp (h2 := h13) e_h13 ?_
      replace hL : Lay h13 := by rw [← e_h13]; exact hL
      refine x_return dX11_holdMeal_148 rfl ⟨Nat.le_refl _, Nat.le_refl _⟩ ?_
      cases hF
      exact ⟨rfl, rfl, hL⟩
    · replace hF := br_F hc hF
      refine x_return dX11_holdMeal_18 rfl ⟨Nat.le_refl _, Nat.le_refl _⟩ ?_
      cases hF
      exact ⟨rfl, rfl, hL⟩
set_option maxHeartbeats 4000000 in
set_option maxRecDepth 100000 in
theorem u_X11_holdMeal (E : xE) (d : Nat) (r : Int × Hp) : ∀ n : Nat, (∀ (h : Hp), Lay h → g_X11_holdMeal n 0 [] h = some r → X E mX11_holdMeal (d + 7) (0, 0) (0, 0) 0 [some (xr 11 0), none, none] [] h (PoV r)) := by
  intro n
  induction n with
  | zero => exact fun _ _ hF => no_e (r := r) hF
  | succ n ih => exact fun h hL hF => t_X11_holdMeal_0 E d (g_X11_holdMeal n) r   h hL hF
theorem c_X11_holdMeal (d : Nat) (h : Hp) (r : Int × Hp) (hL : Lay h) (hF : f_X11_holdMeal  h = some r) : Sp mX11_holdMeal (d + 7) (0, 0) [xr 11 0] h (PoV r) :=
  sp_of (by decide) rfl (Nat.le_of_ble_eq_true rfl) (ls := [some (xr 11 0), none, none]) rfl (fun E _ => (u_X11_holdMeal E d r FU)  h hL hF)
theorem dX11_meals_0 : decode cX11_meals 0 = .ok (.iload_n 1, 1) := by decide +kernel
theorem dX11_meals_1 : decode cX11_meals 1 = .ok (.ifCond .lt 23, 3) := by decide +kernel
theorem dX11_meals_4 : decode cX11_meals 4 = .ok (.iload_n 1, 1) := by decide +kernel
theorem dX11_meals_5 : decode cX11_meals 5 = .ok (.bipush 60, 2) := by decide +kernel
theorem dX11_meals_7 : decode cX11_meals 7 = .ok (.if_icmp .gt 17, 3) := by decide +kernel
theorem dX11_meals_10 : decode cX11_meals 10 = .ok (.aload_n 0, 1) := by decide +kernel
theorem dX11_meals_11 : decode cX11_meals 11 = .ok (.getfield 57, 3) := by decide +kernel
theorem dX11_meals_14 : decode cX11_meals 14 = .ok (.getfield 195, 3) := by decide +kernel
theorem dX11_meals_17 : decode cX11_meals 17 = .ok (.iload_n 1, 1) := by decide +kernel
theorem dX11_meals_18 : decode cX11_meals 18 = .ok (.iadd, 1) := by decide +kernel
theorem dX11_meals_19 : decode cX11_meals 19 = .ok (.bipush 60, 2) := by decide +kernel
theorem dX11_meals_21 : decode cX11_meals 21 = .ok (.if_icmp .le 5, 3) := by decide +kernel
theorem dX11_meals_24 : decode cX11_meals 24 = .ok (.iconst (-1), 1) := by decide +kernel
theorem dX11_meals_25 : decode cX11_meals 25 = .ok (.ireturn, 1) := by decide +kernel
theorem dX11_meals_26 : decode cX11_meals 26 = .ok (.iconst 0, 1) := by decide +kernel
theorem dX11_meals_27 : decode cX11_meals 27 = .ok (.istore_n 2, 1) := by decide +kernel
theorem dX11_meals_28 : decode cX11_meals 28 = .ok (.iload_n 2, 1) := by decide +kernel
theorem dX11_meals_29 : decode cX11_meals 29 = .ok (.iload_n 1, 1) := by decide +kernel
theorem dX11_meals_30 : decode cX11_meals 30 = .ok (.if_icmp .ge 13, 3) := by decide +kernel
theorem dX11_meals_33 : decode cX11_meals 33 = .ok (.aload_n 0, 1) := by decide +kernel
theorem dX11_meals_34 : decode cX11_meals 34 = .ok (.invokevirtual 243, 3) := by decide +kernel
theorem dX11_meals_37 : decode cX11_meals 37 = .ok (.iinc 2 1, 3) := by decide +kernel
theorem dX11_meals_40 : decode cX11_meals 40 = .ok (.goto (-12), 3) := by decide +kernel
theorem dX11_meals_43 : decode cX11_meals 43 = .ok (.aload_n 0, 1) := by decide +kernel
theorem dX11_meals_44 : decode cX11_meals 44 = .ok (.getfield 57, 3) := by decide +kernel
theorem dX11_meals_47 : decode cX11_meals 47 = .ok (.getfield 195, 3) := by decide +kernel
theorem dX11_meals_50 : decode cX11_meals 50 = .ok (.ireturn, 1) := by decide +kernel
noncomputable def b_X11_meals_0 (rec : Rk) (x1 : Int) (h : Hp) : Option (Int × Hp) :=
  if x1 < 0 then (
    some ((-1), h)
  ) else (
    if 60 < x1 then (
      some ((-1), h)
    ) else (
      ck (-2147483648 ≤ (gI h 10 0 0) + x1 ∧ (gI h 10 0 0) + x1 < 2147483648) <|
      if ((gI h 10 0 0) + x1) ≤ 60 then (
        rec 1 [x1, 0] h
      ) else (
        some ((-1), h)
      )
    )
  )
noncomputable def b_X11_meals_1 (rec : Rk) (x1 x2 : Int) (h : Hp) : Option (Int × Hp) :=
  if x1 ≤ x2 then (
    some (gI h 10 0 0, h)
  ) else (
    bd (f_X11_holdMeal h) fun v1 h2 =>
    ck (-2147483648 ≤ x2 + 1 ∧ x2 + 1 < 2147483648) <|
    rec 1 [x1, x2 + 1] h2
  )
noncomputable def g_X11_meals (n : Nat) : Rk := Nat.rec (motive := fun _ => Rk) (fun _ _ _ => none) (fun _ rec k l h => if k = 0 then b_X11_meals_0 rec (l.getD 0 0) h else if k = 1 then b_X11_meals_1 rec (l.getD 0 0) (l.getD 1 0) h else none) n
noncomputable def f_X11_meals (x1 : Int) (h : Hp) : Option (Int × Hp) := g_X11_meals FU 0 [x1] h
set_option maxHeartbeats 4000000 in
set_option maxRecDepth 100000 in
theorem t_X11_meals_0 (E : xE) (d : Nat) (rec : Rk) (r : Int × Hp) (hr_28 : ∀ (x1 x2 : Int) (h : Hp), Lay h → rec 1 [x1, x2] h = some r → X E mX11_meals (d + 8) (0, 0) (0, 0) 28 [some (xr 11 0), some (xi x1), some (xi x2)] [] h (PoI r)) (x1 : Int) (h : Hp) (hL : Lay h) (hF : b_X11_meals_0 rec x1 h = some r) : X E mX11_meals (d + 8) (0, 0) (0, 0) 0 [some (xr 11 0), some (xi x1), none] [] h (PoI r) := by
  unfold b_X11_meals_0 at hF
  refine x_iload_n (i := 1) (b := 1) dX11_meals_0 rfl rfl rfl ?_
  refine x_if_lt (tgt := 24) (b := 4) dX11_meals_1 (by decide) rfl (fun hc => ?_) (fun hc => ?_)
  · replace hF := br_T hc hF
    refine x_iconst (n := (-1)) (b := 25) dX11_meals_24 (by decide) rfl ?_
    refine x_ireturn dX11_meals_25 rfl ⟨Nat.le_refl _, Nat.le_refl _⟩ ?_
    cases hF
    exact ⟨rfl, rfl, hL⟩
  · replace hF := br_F hc hF
    refine x_iload_n (i := 1) (b := 5) dX11_meals_4 rfl rfl rfl ?_
    refine x_bipush (n := 60) (b := 7) dX11_meals_5 (by decide) rfl ?_
    refine x_icmp_gt (tgt := 24) (b := 10) dX11_meals_7 (by decide) rfl (fun hc => ?_) (fun hc => ?_)
    · replace hF := br_T hc hF
      refine x_iconst (n := (-1)) (b := 25) dX11_meals_24 (by decide) rfl ?_
      refine x_ireturn dX11_meals_25 rfl ⟨Nat.le_refl _, Nat.le_refl _⟩ ?_
      cases hF
      exact ⟨rfl, rfl, hL⟩
    · replace hF := br_F hc hF
      refine x_aload_n (i := 0) (b := 11) dX11_meals_10 rfl rfl rfl ?_
      refine x_getL (j := 0) (t := (10, 0, false)) (b := 14) fk_X11_57 dX11_meals_11 rfl hL rfl rfl rfl ?_
      refine x_getI (v := gI h 10 0 0) (b := 17) fk_X11_195 dX11_meals_14 (by decide) rfl rfl ?_
      refine x_iload_n (i := 1) (b := 18) dX11_meals_17 rfl rfl rfl ?_
      obtain ⟨hs, hF⟩ := ck_e hF
      refine x_iadd (b := 19) dX11_meals_18 hs rfl ?_
      refine x_bipush (n := 60) (b := 21) dX11_meals_19 (by decide) rfl ?_
      refine x_icmp_le (tgt := 26) (b := 24) dX11_meals_21 (by decide) rfl (fun hc => ?_) (fun hc => ?_)
      · replace hF := br_T hc hF
        refine x_iconst (n := 0) (b := 27) dX11_meals_26 (by decide) rfl ?_
        refine x_istore_n (i := 2) (b := 28) (ls2 := [some (xr 11 0), some (xi x1), some (xi 0)]) dX11_meals_27 rfl (Nat.le_of_ble_eq_true rfl) rfl rfl ?_
        exact x_dp (ls2 := [some (xr 11 0), some (xi x1), some (xi 0)]) ⟨rfl, rfl, rfl, trivial⟩ (hr_28 x1 0 h hL hF)
      · replace hF := br_F hc hF
        refine x_iconst (n := (-1)) (b := 25) dX11_meals_24 (by decide) rfl ?_
        refine x_ireturn dX11_meals_25 rfl ⟨Nat.le_refl _, Nat.le_refl _⟩ ?_
        cases hF
        exact ⟨rfl, rfl, hL⟩
set_option maxHeartbeats 4000000 in
set_option maxRecDepth 100000 in
theorem t_X11_meals_1 (E : xE) (d : Nat) (rec : Rk) (r : Int × Hp) (hr_28 : ∀ (x1 x2 : Int) (h : Hp), Lay h → rec 1 [x1, x2] h = some r → X E mX11_meals (d + 8) (0, 0) (0, 0) 28 [some (xr 11 0), some (xi x1), some (xi x2)] [] h (PoI r)) (x1 x2 : Int) (h : Hp) (hL : Lay h) (hF : b_X11_meals_1 rec x1 x2 h = some r) : X E mX11_meals (d + 8) (0, 0) (0, 0) 28 [some (xr 11 0), some (xi x1), some (xi x2)] [] h (PoI r) := by
  unfold b_X11_meals_1 at hF
  refine x_iload_n (i := 2) (b := 29) dX11_meals_28 rfl rfl rfl ?_
  refine x_iload_n (i := 1) (b := 30) dX11_meals_29 rfl rfl rfl ?_
  refine x_icmp_ge (tgt := 43) (b := 33) dX11_meals_30 (by decide) rfl (fun hc => ?_) (fun hc => ?_)
  · replace hF := br_T hc hF
    refine x_aload_n (i := 0) (b := 44) dX11_meals_43 rfl rfl rfl ?_
    refine x_getL (j := 0) (t := (10, 0, false)) (b := 47) fk_X11_57 dX11_meals_44 rfl hL rfl rfl rfl ?_
    refine x_getI (v := gI h 10 0 0) (b := 50) fk_X11_195 dX11_meals_47 (by decide) rfl rfl ?_
    refine x_ireturn dX11_meals_50 rfl ⟨Nat.le_refl _, Nat.le_refl _⟩ ?_
    cases hF
    exact ⟨rfl, rfl, hL⟩
  · replace hF := br_F hc hF
    refine x_aload_n (i := 0) (b := 34) dX11_meals_33 rfl rfl rfl ?_
    obtain ⟨v1, h2, hq, hF⟩ := bd_e hF
    refine x_callV (as := []) (rest := []) (b := 37) (c_X11_holdMeal d h _ hL hq) dX11_meals_34 cw_X11_243 ⟨_, _, rfl, Nat.le_of_ble_eq_true rfl⟩ rfl rfl (Nat.le_of_ble_eq_true rfl) ⟨Nat.le_refl _, Nat.le_refl _⟩ rfl (fun rv hh hp _ => ?_)
    obtain ⟨rfl, rfl, hL⟩ := hp
    obtain ⟨hs, hF⟩ := ck_e hF
    refine x_iinc (i := 2) (b := 40) (ls2 := [some (xr 11 0), some (xi x1), some (xi (x2 + 1))]) dX11_meals_37 rfl (Nat.le_of_ble_eq_true rfl) hs rfl rfl ?_
    refine x_goto (tgt := 28) dX11_meals_40 (by decide) ?_
    exact x_dp (ls2 := [some (xr 11 0), some (xi x1), some (xi (x2 + 1))]) ⟨rfl, rfl, rfl, trivial⟩ (hr_28 x1 (x2 + 1) h2 hL hF)
set_option maxHeartbeats 4000000 in
set_option maxRecDepth 100000 in
theorem u_X11_meals (E : xE) (d : Nat) (r : Int × Hp) : ∀ n : Nat, (∀ (x1 : Int) (h : Hp), Lay h → g_X11_meals n 0 [x1] h = some r → X E mX11_meals (d + 8) (0, 0) (0, 0) 0 [some (xr 11 0), some (xi x1), none] [] h (PoI r)) ∧ (∀ (x1 x2 : Int) (h : Hp), Lay h → g_X11_meals n 1 [x1, x2] h = some r → X E mX11_meals (d + 8) (0, 0) (0, 0) 28 [some (xr 11 0), some (xi x1), some (xi x2)] [] h (PoI r)) := by
  intro n
  induction n with
  | zero => exact ⟨fun _ _ _ hF => no_e (r := r) hF, fun _ _ _ _ hF => no_e (r := r) hF⟩
  | succ n ih => exact ⟨fun x1 h hL hF => t_X11_meals_0 E d (g_X11_meals n) r ih.2 x1 h hL hF, fun x1 x2 h hL hF => t_X11_meals_1 E d (g_X11_meals n) r ih.2 x1 x2 h hL hF⟩
theorem c_X11_meals (d : Nat) (x1 : Int) (h : Hp) (r : Int × Hp) (hL : Lay h) (hF : f_X11_meals x1 h = some r) : Sp mX11_meals (d + 8) (0, 0) [xr 11 0, xi x1] h (PoI r) :=
  sp_of (by decide) rfl (Nat.le_of_ble_eq_true rfl) (ls := [some (xr 11 0), some (xi x1), none]) rfl (fun E _ => (u_X11_meals E d r FU).1 x1 h hL hF)
theorem dX11_odds_0 : decode cX11_odds 0 = .ok (.iload_n 1, 1) := by decide +kernel
theorem dX11_odds_1 : decode cX11_odds 1 = .ok (.ifCond .lt 23, 3) := by decide +kernel
theorem dX11_odds_4 : decode cX11_odds 4 = .ok (.iload_n 1, 1) := by decide +kernel
theorem dX11_odds_5 : decode cX11_odds 5 = .ok (.aload_n 0, 1) := by decide +kernel
theorem dX11_odds_6 : decode cX11_odds 6 = .ok (.getfield 20, 3) := by decide +kernel
theorem dX11_odds_9 : decode cX11_odds 9 = .ok (.getfield 237, 3) := by decide +kernel
theorem dX11_odds_12 : decode cX11_odds 12 = .ok (.if_icmp .ge 12, 3) := by decide +kernel
theorem dX11_odds_15 : decode cX11_odds 15 = .ok (.iload_n 2, 1) := by decide +kernel
theorem dX11_odds_16 : decode cX11_odds 16 = .ok (.ifCond .eq 10, 3) := by decide +kernel
theorem dX11_odds_19 : decode cX11_odds 19 = .ok (.iload_n 2, 1) := by decide +kernel
theorem dX11_odds_20 : decode cX11_odds 20 = .ok (.iconst 1, 1) := by decide +kernel
theorem dX11_odds_21 : decode cX11_odds 21 = .ok (.if_icmp .eq 5, 3) := by decide +kernel
theorem dX11_odds_24 : decode cX11_odds 24 = .ok (.iconst (-1), 1) := by decide +kernel
theorem dX11_odds_25 : decode cX11_odds 25 = .ok (.ireturn, 1) := by decide +kernel
theorem dX11_odds_26 : decode cX11_odds 26 = .ok (.aload_n 0, 1) := by decide +kernel
theorem dX11_odds_27 : decode cX11_odds 27 = .ok (.invokevirtual 314, 3) := by decide +kernel
theorem dX11_odds_30 : decode cX11_odds 30 = .ok (.istore_n 3, 1) := by decide +kernel
theorem dX11_odds_31 : decode cX11_odds 31 = .ok (.iload_n 3, 1) := by decide +kernel
theorem dX11_odds_32 : decode cX11_odds 32 = .ok (.ifCond .ne 5, 3) := by decide +kernel
theorem dX11_odds_35 : decode cX11_odds 35 = .ok (.iload_n 2, 1) := by decide +kernel
theorem dX11_odds_36 : decode cX11_odds 36 = .ok (.ireturn, 1) := by decide +kernel
theorem dX11_odds_37 : decode cX11_odds 37 = .ok (.iconst 0, 1) := by decide +kernel
theorem dX11_odds_38 : decode cX11_odds 38 = .ok (.istore 4, 2) := by decide +kernel
theorem dX11_odds_40 : decode cX11_odds 40 = .ok (.iconst 0, 1) := by decide +kernel
theorem dX11_odds_41 : decode cX11_odds 41 = .ok (.istore 5, 2) := by decide +kernel
theorem dX11_odds_43 : decode cX11_odds 43 = .ok (.iconst 0, 1) := by decide +kernel
theorem dX11_odds_44 : decode cX11_odds 44 = .ok (.istore 6, 2) := by decide +kernel
theorem dX11_odds_46 : decode cX11_odds 46 = .ok (.iload 6, 2) := by decide +kernel
theorem dX11_odds_48 : decode cX11_odds 48 = .ok (.iconst 1, 1) := by decide +kernel
theorem dX11_odds_49 : decode cX11_odds 49 = .ok (.aload_n 0, 1) := by decide +kernel
theorem dX11_odds_50 : decode cX11_odds 50 = .ok (.getfield 20, 3) := by decide +kernel
theorem dX11_odds_53 : decode cX11_odds 53 = .ok (.getfield 237, 3) := by decide +kernel
theorem dX11_odds_56 : decode cX11_odds 56 = .ok (.ishl, 1) := by decide +kernel
theorem dX11_odds_57 : decode cX11_odds 57 = .ok (.if_icmp .ge 58, 3) := by decide +kernel
theorem dX11_odds_60 : decode cX11_odds 60 = .ok (.iload_n 3, 1) := by decide +kernel
theorem dX11_odds_61 : decode cX11_odds 61 = .ok (.iload 6, 2) := by decide +kernel
theorem dX11_odds_63 : decode cX11_odds 63 = .ok (.ishr, 1) := by decide +kernel
theorem dX11_odds_64 : decode cX11_odds 64 = .ok (.iconst 1, 1) := by decide +kernel
theorem dX11_odds_65 : decode cX11_odds 65 = .ok (.iand, 1) := by decide +kernel
theorem dX11_odds_66 : decode cX11_odds 66 = .ok (.iconst 1, 1) := by decide +kernel
theorem dX11_odds_67 : decode cX11_odds 67 = .ok (.if_icmp .ne 42, 3) := by decide +kernel
theorem dX11_odds_70 : decode cX11_odds 70 = .ok (.aload_n 0, 1) := by decide +kernel
theorem dX11_odds_71 : decode cX11_odds 71 = .ok (.getfield 20, 3) := by decide +kernel
theorem dX11_odds_74 : decode cX11_odds 74 = .ok (.iload 6, 2) := by decide +kernel
theorem dX11_odds_76 : decode cX11_odds 76 = .ok (.invokevirtual 327, 3) := by decide +kernel
theorem dX11_odds_79 : decode cX11_odds 79 = .ok (.istore 7, 2) := by decide +kernel
theorem dX11_odds_81 : decode cX11_odds 81 = .ok (.iload 5, 2) := by decide +kernel
theorem dX11_odds_83 : decode cX11_odds 83 = .ok (.iload 7, 2) := by decide +kernel
theorem dX11_odds_85 : decode cX11_odds 85 = .ok (.iadd, 1) := by decide +kernel
theorem dX11_odds_86 : decode cX11_odds 86 = .ok (.istore 5, 2) := by decide +kernel
theorem dX11_odds_88 : decode cX11_odds 88 = .ok (.iload 4, 2) := by decide +kernel
theorem dX11_odds_90 : decode cX11_odds 90 = .ok (.iload 6, 2) := by decide +kernel
theorem dX11_odds_92 : decode cX11_odds 92 = .ok (.iload_n 1, 1) := by decide +kernel
theorem dX11_odds_93 : decode cX11_odds 93 = .ok (.ishr, 1) := by decide +kernel
theorem dX11_odds_94 : decode cX11_odds 94 = .ok (.iconst 1, 1) := by decide +kernel
theorem dX11_odds_95 : decode cX11_odds 95 = .ok (.iand, 1) := by decide +kernel
theorem dX11_odds_96 : decode cX11_odds 96 = .ok (.iconst 1, 1) := by decide +kernel
theorem dX11_odds_97 : decode cX11_odds 97 = .ok (.if_icmp .ne 8, 3) := by decide +kernel
theorem dX11_odds_100 : decode cX11_odds 100 = .ok (.iload 7, 2) := by decide +kernel
theorem dX11_odds_102 : decode cX11_odds 102 = .ok (.goto 4, 3) := by decide +kernel
theorem dX11_odds_105 : decode cX11_odds 105 = .ok (.iconst 0, 1) := by decide +kernel
theorem dX11_odds_106 : decode cX11_odds 106 = .ok (.iadd, 1) := by decide +kernel
theorem dX11_odds_107 : decode cX11_odds 107 = .ok (.istore 4, 2) := by decide +kernel
theorem dX11_odds_109 : decode cX11_odds 109 = .ok (.iinc 6 1, 3) := by decide +kernel
theorem dX11_odds_112 : decode cX11_odds 112 = .ok (.goto (-66), 3) := by decide +kernel
theorem dX11_odds_115 : decode cX11_odds 115 = .ok (.iload 4, 2) := by decide +kernel
theorem dX11_odds_117 : decode cX11_odds 117 = .ok (.iload 5, 2) := by decide +kernel
theorem dX11_odds_119 : decode cX11_odds 119 = .ok (.iload_n 2, 1) := by decide +kernel
theorem dX11_odds_120 : decode cX11_odds 120 = .ok (.invokestatic 298, 3) := by decide +kernel
theorem dX11_odds_123 : decode cX11_odds 123 = .ok (.ireturn, 1) := by decide +kernel
noncomputable def b_X11_odds_0 (rec : Rk) (x1 x2 : Int) (h : Hp) : Option (Int × Hp) :=
  if x1 < 0 then (
    some ((-1), h)
  ) else (
    rf (gR h 11 0 2) 0 fun j1 =>
    if (gI h 0 j1 4) ≤ x1 then (
      some ((-1), h)
    ) else (
      if x2 = 0 then (
        rec 1 [x1, x2] h
      ) else (
        if x2 = 1 then (
          rec 1 [x1, x2] h
        ) else (
          some ((-1), h)
        )
      )
    )
  )
noncomputable def b_X11_odds_1 (rec : Rk) (x1 x2 : Int) (h : Hp) : Option (Int × Hp) :=
  bd (f_X11_fitting h) fun v1 h2 =>
  if v1 = 0 then (
    some (x2, h2)
  ) else (
    rec 2 [x1, x2, v1, 0, 0, 0] h2
  )
noncomputable def b_X11_odds_2 (rec : Rk) (x1 x2 x3 x4 x5 x6 : Int) (h : Hp) : Option (Int × Hp) :=
  rf (gR h 11 0 2) 0 fun j1 =>
  if (bshl 1 (gI h 0 j1 4)) ≤ x6 then (
    bd (f_X11_part x4 x5 x2 h) fun v2 h3 =>
    some (v2, h3)
  ) else (
    if (band (bshr x3 x6) 1) = 1 then (
      rf (gR h 11 0 2) 0 fun j4 =>
      bd (f_X0_weight j4 x6 h) fun v5 h6 =>
      ck (-2147483648 ≤ x5 + v5 ∧ x5 + v5 < 2147483648) <|
      lt (x5 + v5) fun z7 =>
      if (band (bshr x6 x1) 1) = 1 then (
        rec 3 [x1, x2, x3, z7, x6, v5, x4] h6
      ) else (
        rec 3 [x1, x2, x3, z7, x6, 0, x4] h6
      )
    ) else (
      rec 4 [x1, x2, x3, x4, x5, x6] h
    )
  )
noncomputable def b_X11_odds_3 (rec : Rk) (x1 x2 x3 x5 x6 y0 y1 : Int) (h : Hp) : Option (Int × Hp) :=
  ck (-2147483648 ≤ y1 + y0 ∧ y1 + y0 < 2147483648) <|
  lt (y1 + y0) fun z1 =>
  rec 4 [x1, x2, x3, z1, x5, x6] h
noncomputable def b_X11_odds_4 (rec : Rk) (x1 x2 x3 x4 x5 x6 : Int) (h : Hp) : Option (Int × Hp) :=
  ck (-2147483648 ≤ x6 + 1 ∧ x6 + 1 < 2147483648) <|
  rec 2 [x1, x2, x3, x4, x5, x6 + 1] h
noncomputable def g_X11_odds (n : Nat) : Rk := Nat.rec (motive := fun _ => Rk) (fun _ _ _ => none) (fun _ rec k l h => if k = 0 then b_X11_odds_0 rec (l.getD 0 0) (l.getD 1 0) h else if k = 1 then b_X11_odds_1 rec (l.getD 0 0) (l.getD 1 0) h else if k = 2 then b_X11_odds_2 rec (l.getD 0 0) (l.getD 1 0) (l.getD 2 0) (l.getD 3 0) (l.getD 4 0) (l.getD 5 0) h else if k = 3 then b_X11_odds_3 rec (l.getD 0 0) (l.getD 1 0) (l.getD 2 0) (l.getD 3 0) (l.getD 4 0) (l.getD 5 0) (l.getD 6 0) h else if k = 4 then b_X11_odds_4 rec (l.getD 0 0) (l.getD 1 0) (l.getD 2 0) (l.getD 3 0) (l.getD 4 0) (l.getD 5 0) h else none) n
noncomputable def f_X11_odds (x1 x2 : Int) (h : Hp) : Option (Int × Hp) := g_X11_odds FU 0 [x1, x2] h
set_option maxHeartbeats 4000000 in
set_option maxRecDepth 100000 in
theorem t_X11_odds_0 (E : xE) (d : Nat) (rec : Rk) (r : Int × Hp) (hr_26 : ∀ (x1 x2 : Int) (h : Hp), Lay h → rec 1 [x1, x2] h = some r → X E mX11_odds (d + 8) (0, 0) (0, 0) 26 [some (xr 11 0), some (xi x1), some (xi x2), none, none, none, none, none] [] h (PoI r)) (x1 x2 : Int) (h : Hp) (hL : Lay h) (hF : b_X11_odds_0 rec x1 x2 h = some r) : X E mX11_odds (d + 8) (0, 0) (0, 0) 0 [some (xr 11 0), some (xi x1), some (xi x2), none, none, none, none, none] [] h (PoI r) := by
  unfold b_X11_odds_0 at hF
  refine x_iload_n (i := 1) (b := 1) dX11_odds_0 rfl rfl rfl ?_
  refine x_if_lt (tgt := 24) (b := 4) dX11_odds_1 (by decide) rfl (fun hc => ?_) (fun hc => ?_)
  · replace hF := br_T hc hF
    refine x_iconst (n := (-1)) (b := 25) dX11_odds_24 (by decide) rfl ?_
    refine x_ireturn dX11_odds_25 rfl ⟨Nat.le_refl _, Nat.le_refl _⟩ ?_
    cases hF
    exact ⟨rfl, rfl, hL⟩
  · replace hF := br_F hc hF
    refine x_iload_n (i := 1) (b := 5) dX11_odds_4 rfl rfl rfl ?_
    refine x_aload_n (i := 0) (b := 6) dX11_odds_5 rfl rfl rfl ?_
    obtain ⟨j1, e_j1, hF⟩ := rf_e hF
    refine x_getR (v := some (0, j1)) (b := 9) fk_X11_20 dX11_odds_6 rfl e_j1 rfl ?_
    refine x_getI (v := gI h 0 j1 4) (b := 12) fk_X11_237 dX11_odds_9 (by decide) rfl rfl ?_
    refine x_icmp_ge (tgt := 24) (b := 15) dX11_odds_12 (by decide) rfl (fun hc => ?_) (fun hc => ?_)
    · replace hF := br_T hc hF
      refine x_iconst (n := (-1)) (b := 25) dX11_odds_24 (by decide) rfl ?_
      refine x_ireturn dX11_odds_25 rfl ⟨Nat.le_refl _, Nat.le_refl _⟩ ?_
      cases hF
      exact ⟨rfl, rfl, hL⟩
    · replace hF := br_F hc hF
      refine x_iload_n (i := 2) (b := 16) dX11_odds_15 rfl rfl rfl ?_
      refine x_if_eq (tgt := 26) (b := 19) dX11_odds_16 (by decide) rfl (fun hc => ?_) (fun hc => ?_)
      · replace hF := br_T hc hF
        exact x_dp (ls2 := [some (xr 11 0), some (xi x1), some (xi x2), none, none, none, none, none]) ⟨rfl, rfl, rfl, trivial⟩ (hr_26 x1 x2 h hL hF)
      · replace hF := br_F hc hF
        refine x_iload_n (i := 2) (b := 20) dX11_odds_19 rfl rfl rfl ?_
        refine x_iconst (n := 1) (b := 21) dX11_odds_20 (by decide) rfl ?_
        refine x_icmp_eq (tgt := 26) (b := 24) dX11_odds_21 (by decide) rfl (fun hc => ?_) (fun hc => ?_)
        · replace hF := br_T hc hF
          exact x_dp (ls2 := [some (xr 11 0), some (xi x1), some (xi x2), none, none, none, none, none]) ⟨rfl, rfl, rfl, trivial⟩ (hr_26 x1 x2 h hL hF)
        · replace hF := br_F hc hF
          refine x_iconst (n := (-1)) (b := 25) dX11_odds_24 (by decide) rfl ?_
          refine x_ireturn dX11_odds_25 rfl ⟨Nat.le_refl _, Nat.le_refl _⟩ ?_
          cases hF
          exact ⟨rfl, rfl, hL⟩
set_option maxHeartbeats 4000000 in
set_option maxRecDepth 100000 in
theorem t_X11_odds_1 (E : xE) (d : Nat) (rec : Rk) (r : Int × Hp) (hr_46 : ∀ (x1 x2 x3 x4 x5 x6 : Int) (h : Hp), Lay h → rec 2 [x1, x2, x3, x4, x5, x6] h = some r → X E mX11_odds (d + 8) (0, 0) (0, 0) 46 [some (xr 11 0), some (xi x1), some (xi x2), some (xi x3), some (xi x4), some (xi x5), some (xi x6), none] [] h (PoI r)) (x1 x2 : Int) (h : Hp) (hL : Lay h) (hF : b_X11_odds_1 rec x1 x2 h = some r) : X E mX11_odds (d + 8) (0, 0) (0, 0) 26 [some (xr 11 0), some (xi x1), some (xi x2), none, none, none, none, none] [] h (PoI r) := by
  unfold b_X11_odds_1 at hF
  refine x_aload_n (i := 0) (b := 27) dX11_odds_26 rfl rfl rfl ?_
  obtain ⟨v1, h2, hq, hF⟩ := bd_e hF
  refine x_callV (as := []) (rest := []) (b := 30) (c_X11_fitting d h _ hL hq) dX11_odds_27 cw_X11_314 ⟨_, _, rfl, Nat.le_of_ble_eq_true rfl⟩ rfl rfl (Nat.le_of_ble_eq_true rfl) ⟨Nat.le_refl _, Nat.le_refl _⟩ rfl (fun rv hh hp _ => ?_)
  obtain ⟨rfl, rfl, hL⟩ := hp
  refine x_istore_n (i := 3) (b := 31) (ls2 := [some (xr 11 0), some (xi x1), some (xi x2), some (xi v1), none, none, none, none]) dX11_odds_30 rfl (Nat.le_of_ble_eq_true rfl) rfl rfl ?_
  refine x_iload_n (i := 3) (b := 32) dX11_odds_31 rfl rfl rfl ?_
  refine x_if_ne (tgt := 37) (b := 35) dX11_odds_32 (by decide) rfl (fun hc => ?_) (fun hc => ?_)
  · replace hF := br_F hc hF
    refine x_iconst (n := 0) (b := 38) dX11_odds_37 (by decide) rfl ?_
    refine x_istore (i := 4) (b := 40) (ls2 := [some (xr 11 0), some (xi x1), some (xi x2), some (xi v1), some (xi 0), none, none, none]) dX11_odds_38 (Nat.le_of_ble_eq_true rfl) rfl rfl ?_
    refine x_iconst (n := 0) (b := 41) dX11_odds_40 (by decide) rfl ?_
    refine x_istore (i := 5) (b := 43) (ls2 := [some (xr 11 0), some (xi x1), some (xi x2), some (xi v1), some (xi 0), some (xi 0), none, none]) dX11_odds_41 (Nat.le_of_ble_eq_true rfl) rfl rfl ?_
    refine x_iconst (n := 0) (b := 44) dX11_odds_43 (by decide) rfl ?_
    refine x_istore (i := 6) (b := 46) (ls2 := [some (xr 11 0), some (xi x1), some (xi x2), some (xi v1), some (xi 0), some (xi 0), some (xi 0), none]) dX11_odds_44 (Nat.le_of_ble_eq_true rfl) rfl rfl ?_
    exact x_dp (ls2 := [some (xr 11 0), some (xi x1), some (xi x2), some (xi v1), some (xi 0), some (xi 0), some (xi 0), none]) ⟨rfl, rfl, rfl, rfl, rfl, rfl, rfl, trivial⟩ (hr_46 x1 x2 v1 0 0 0 h2 hL hF)
  · replace hF := br_T hc hF
    refine x_iload_n (i := 2) (b := 36) dX11_odds_35 rfl rfl rfl ?_
    refine x_ireturn dX11_odds_36 rfl ⟨Nat.le_refl _, Nat.le_refl _⟩ ?_
    cases hF
    exact ⟨rfl, rfl, hL⟩
set_option maxHeartbeats 4000000 in
set_option maxRecDepth 100000 in
theorem t_X11_odds_2 (E : xE) (d : Nat) (rec : Rk) (r : Int × Hp) (hr_106 : ∀ (x1 x2 x3 x5 x6 y0 y1 : Int) (h : Hp), Lay h → rec 3 [x1, x2, x3, x5, x6, y0, y1] h = some r → X E mX11_odds (d + 8) (0, 0) (0, 0) 106 [some (xr 11 0), some (xi x1), some (xi x2), some (xi x3), none, some (xi x5), some (xi x6), none] [xi y0, xi y1] h (PoI r)) (hr_109 : ∀ (x1 x2 x3 x4 x5 x6 : Int) (h : Hp), Lay h → rec 4 [x1, x2, x3, x4, x5, x6] h = some r → X E mX11_odds (d + 8) (0, 0) (0, 0) 109 [some (xr 11 0), some (xi x1), some (xi x2), some (xi x3), some (xi x4), some (xi x5), some (xi x6), none] [] h (PoI r)) (x1 x2 x3 x4 x5 x6 : Int) (h : Hp) (hL : Lay h) (hF : b_X11_odds_2 rec x1 x2 x3 x4 x5 x6 h = some r) : X E mX11_odds (d + 8) (0, 0) (0, 0) 46 [some (xr 11 0), some (xi x1), some (xi x2), some (xi x3), some (xi x4), some (xi x5), some (xi x6), none] [] h (PoI r) := by
  unfold b_X11_odds_2 at hF
  refine x_iload (i := 6) (b := 48) dX11_odds_46 rfl rfl ?_
  refine x_iconst (n := 1) (b := 49) dX11_odds_48 (by decide) rfl ?_
  refine x_aload_n (i := 0) (b := 50) dX11_odds_49 rfl rfl rfl ?_
  obtain ⟨j1, e_j1, hF⟩ := rf_e hF
  refine x_getR (v := some (0, j1)) (b := 53) fk_X11_20 dX11_odds_50 rfl e_j1 rfl ?_
  refine x_getI (v := gI h 0 j1 4) (b := 56) fk_X11_237 dX11_odds_53 (by decide) rfl rfl ?_
  refine x_ishl (b := 57) dX11_odds_56 rfl ?_
  refine x_icmp_ge (tgt := 115) (b := 60) dX11_odds_57 (by decide) rfl (fun hc => ?_) (fun hc => ?_)
  · replace hF := br_T hc hF
    refine x_iload (i := 4) (b := 117) dX11_odds_115 rfl rfl ?_
    refine x_iload (i := 5) (b := 119) dX11_odds_117 rfl rfl ?_
    refine x_iload_n (i := 2) (b := 120) dX11_odds_119 rfl rfl rfl ?_
    obtain ⟨v2, h3, hq, hF⟩ := bd_e hF
    refine x_callS (as := [xi x4, xi x5, xi x2]) (rest := []) (b := 123) (c_X11_part (d + 6) x4 x5 x2 h _ hL hq) dX11_odds_120 cw_X11_298 rfl rfl (Nat.le_of_ble_eq_true rfl) ⟨Nat.le_refl _, Nat.le_refl _⟩ rfl (fun rv hh hp _ => ?_)
    obtain ⟨rfl, rfl, hL⟩ := hp
    refine x_ireturn dX11_odds_123 rfl ⟨Nat.le_refl _, Nat.le_refl _⟩ ?_
    cases hF
    exact ⟨rfl, rfl, hL⟩
  · replace hF := br_F hc hF
    refine x_iload_n (i := 3) (b := 61) dX11_odds_60 rfl rfl rfl ?_
    refine x_iload (i := 6) (b := 63) dX11_odds_61 rfl rfl ?_
    refine x_ishr (b := 64) dX11_odds_63 rfl ?_
    refine x_iconst (n := 1) (b := 65) dX11_odds_64 (by decide) rfl ?_
    refine x_iand (b := 66) dX11_odds_65 rfl ?_
    refine x_iconst (n := 1) (b := 67) dX11_odds_66 (by decide) rfl ?_
    refine x_icmp_ne (tgt := 109) (b := 70) dX11_odds_67 (by decide) rfl (fun hc => ?_) (fun hc => ?_)
    · replace hF := br_F hc hF
      exact x_dp (ls2 := [some (xr 11 0), some (xi x1), some (xi x2), some (xi x3), some (xi x4), some (xi x5), some (xi x6), none]) ⟨rfl, rfl, rfl, rfl, rfl, rfl, rfl, trivial⟩ (hr_109 x1 x2 x3 x4 x5 x6 h hL hF)
    · replace hF := br_T hc hF
      refine x_aload_n (i := 0) (b := 71) dX11_odds_70 rfl rfl rfl ?_
      obtain ⟨j4, e_j4, hF⟩ := rf_e hF
      refine x_getR (v := some (0, j4)) (b := 74) fk_X11_20 dX11_odds_71 rfl e_j4 rfl ?_
      refine x_iload (i := 6) (b := 76) dX11_odds_74 rfl rfl ?_
      obtain ⟨v5, h6, hq, hF⟩ := bd_e hF
      refine x_callV (as := [xi x6]) (rest := []) (b := 79) (c_X0_weight (d + 6) j4 x6 h _ hL hq) dX11_odds_76 cw_X11_327 ⟨_, _, rfl, Nat.le_of_ble_eq_true rfl⟩ rfl rfl (Nat.le_of_ble_eq_true rfl) ⟨Nat.le_refl _, Nat.le_refl _⟩ rfl (fun rv hh hp _ => ?_)
      obtain ⟨rfl, rfl, hL⟩ := hp
      refine x_istore (i := 7) (b := 81) (ls2 := [some (xr 11 0), some (xi x1), some (xi x2), some (xi x3), some (xi x4), some (xi x5), some (xi x6), some (xi v5)]) dX11_odds_79 (Nat.le_of_ble_eq_true rfl) rfl rfl ?_
      refine x_iload (i := 5) (b := 83) dX11_odds_81 rfl rfl ?_
      refine x_iload (i := 7) (b := 85) dX11_odds_83 rfl rfl ?_
      obtain ⟨hs, hF⟩ := ck_e hF
      refine x_iadd (b := 86) dX11_odds_85 hs rfl ?_
      obtain ⟨z7, e_z7, hF⟩ := lt_e hF
      refine x_eq (y := z7) e_z7 ?_
      refine x_istore (i := 5) (b := 88) (ls2 := [some (xr 11 0), some (xi x1), some (xi x2), some (xi x3), some (xi x4), some (xi z7), some (xi x6), some (xi v5)]) dX11_odds_86 (Nat.le_of_ble_eq_true rfl) rfl rfl ?_
      refine x_iload (i := 4) (b := 90) dX11_odds_88 rfl rfl ?_
      refine x_iload (i := 6) (b := 92) dX11_odds_90 rfl rfl ?_
      refine x_iload_n (i := 1) (b := 93) dX11_odds_92 rfl rfl rfl ?_
      refine x_ishr (b := 94) dX11_odds_93 rfl ?_
      refine x_iconst (n := 1) (b := 95) dX11_odds_94 (by decide) rfl ?_
      refine x_iand (b := 96) dX11_odds_95 rfl ?_
      refine x_iconst (n := 1) (b := 97) dX11_odds_96 (by decide) rfl ?_
      refine x_icmp_ne (tgt := 105) (b := 100) dX11_odds_97 (by decide) rfl (fun hc => ?_) (fun hc => ?_)
      · replace hF := br_F hc hF
        refine x_iconst (n := 0) (b := 106) dX11_odds_105 (by decide) rfl ?_
        exact x_dp (ls2 := [some (xr 11 0), some (xi x1), some (xi x2), some (xi x3), none, some (xi z7), some (xi x6), none]) ⟨rfl, rfl, rfl, rfl, rfl, rfl, trivial⟩ (hr_106 x1 x2 x3 z7 x6 0 x4 h6 hL hF)
      · replace hF := br_T hc hF
        refine x_iload (i := 7) (b := 102) dX11_odds_100 rfl rfl ?_
        refine x_goto (tgt := 106) dX11_odds_102 (by decide) ?_
        exact x_dp (ls2 := [some (xr 11 0), some (xi x1), some (xi x2), some (xi x3), none, some (xi z7), some (xi x6), none]) ⟨rfl, rfl, rfl, rfl, rfl, rfl, trivial⟩ (hr_106 x1 x2 x3 z7 x6 v5 x4 h6 hL hF)
set_option maxHeartbeats 4000000 in
set_option maxRecDepth 100000 in
theorem t_X11_odds_3 (E : xE) (d : Nat) (rec : Rk) (r : Int × Hp) (hr_109 : ∀ (x1 x2 x3 x4 x5 x6 : Int) (h : Hp), Lay h → rec 4 [x1, x2, x3, x4, x5, x6] h = some r → X E mX11_odds (d + 8) (0, 0) (0, 0) 109 [some (xr 11 0), some (xi x1), some (xi x2), some (xi x3), some (xi x4), some (xi x5), some (xi x6), none] [] h (PoI r)) (x1 x2 x3 x5 x6 y0 y1 : Int) (h : Hp) (hL : Lay h) (hF : b_X11_odds_3 rec x1 x2 x3 x5 x6 y0 y1 h = some r) : X E mX11_odds (d + 8) (0, 0) (0, 0) 106 [some (xr 11 0), some (xi x1), some (xi x2), some (xi x3), none, some (xi x5), some (xi x6), none] [xi y0, xi y1] h (PoI r) := by
  unfold b_X11_odds_3 at hF
  obtain ⟨hs, hF⟩ := ck_e hF
  refine x_iadd (b := 107) dX11_odds_106 hs rfl ?_
  obtain ⟨z1, e_z1, hF⟩ := lt_e hF
  refine x_eq (y := z1) e_z1 ?_
  refine x_istore (i := 4) (b := 109) (ls2 := [some (xr 11 0), some (xi x1), some (xi x2), some (xi x3), some (xi z1), some (xi x5), some (xi x6), none]) dX11_odds_107 (Nat.le_of_ble_eq_true rfl) rfl rfl ?_
  exact x_dp (ls2 := [some (xr 11 0), some (xi x1), some (xi x2), some (xi x3), some (xi z1), some (xi x5), some (xi x6), none]) ⟨rfl, rfl, rfl, rfl, rfl, rfl, rfl, trivial⟩ (hr_109 x1 x2 x3 z1 x5 x6 h hL hF)
set_option maxHeartbeats 4000000 in
set_option maxRecDepth 100000 in
theorem t_X11_odds_4 (E : xE) (d : Nat) (rec : Rk) (r : Int × Hp) (hr_46 : ∀ (x1 x2 x3 x4 x5 x6 : Int) (h : Hp), Lay h → rec 2 [x1, x2, x3, x4, x5, x6] h = some r → X E mX11_odds (d + 8) (0, 0) (0, 0) 46 [some (xr 11 0), some (xi x1), some (xi x2), some (xi x3), some (xi x4), some (xi x5), some (xi x6), none] [] h (PoI r)) (x1 x2 x3 x4 x5 x6 : Int) (h : Hp) (hL : Lay h) (hF : b_X11_odds_4 rec x1 x2 x3 x4 x5 x6 h = some r) : X E mX11_odds (d + 8) (0, 0) (0, 0) 109 [some (xr 11 0), some (xi x1), some (xi x2), some (xi x3), some (xi x4), some (xi x5), some (xi x6), none] [] h (PoI r) := by
  unfold b_X11_odds_4 at hF
  obtain ⟨hs, hF⟩ := ck_e hF
  refine x_iinc (i := 6) (b := 112) (ls2 := [some (xr 11 0), some (xi x1), some (xi x2), some (xi x3), some (xi x4), some (xi x5), some (xi (x6 + 1)), none]) dX11_odds_109 rfl (Nat.le_of_ble_eq_true rfl) hs rfl rfl ?_
  refine x_goto (tgt := 46) dX11_odds_112 (by decide) ?_
  exact x_dp (ls2 := [some (xr 11 0), some (xi x1), some (xi x2), some (xi x3), some (xi x4), some (xi x5), some (xi (x6 + 1)), none]) ⟨rfl, rfl, rfl, rfl, rfl, rfl, rfl, trivial⟩ (hr_46 x1 x2 x3 x4 x5 (x6 + 1) h hL hF)
set_option maxHeartbeats 4000000 in
set_option maxRecDepth 100000 in
theorem u_X11_odds (E : xE) (d : Nat) (r : Int × Hp) : ∀ n : Nat, (∀ (x1 x2 : Int) (h : Hp), Lay h → g_X11_odds n 0 [x1, x2] h = some r → X E mX11_odds (d + 8) (0, 0) (0, 0) 0 [some (xr 11 0), some (xi x1), some (xi x2), none, none, none, none, none] [] h (PoI r)) ∧ (∀ (x1 x2 : Int) (h : Hp), Lay h → g_X11_odds n 1 [x1, x2] h = some r → X E mX11_odds (d + 8) (0, 0) (0, 0) 26 [some (xr 11 0), some (xi x1), some (xi x2), none, none, none, none, none] [] h (PoI r)) ∧ (∀ (x1 x2 x3 x4 x5 x6 : Int) (h : Hp), Lay h → g_X11_odds n 2 [x1, x2, x3, x4, x5, x6] h = some r → X E mX11_odds (d + 8) (0, 0) (0, 0) 46 [some (xr 11 0), some (xi x1), some (xi x2), some (xi x3), some (xi x4), some (xi x5), some (xi x6), none] [] h (PoI r)) ∧ (∀ (x1 x2 x3 x5 x6 y0 y1 : Int) (h : Hp), Lay h → g_X11_odds n 3 [x1, x2, x3, x5, x6, y0, y1] h = some r → X E mX11_odds (d + 8) (0, 0) (0, 0) 106 [some (xr 11 0), some (xi x1), some (xi x2), some (xi x3), none, some (xi x5), some (xi x6), none] [xi y0, xi y1] h (PoI r)) ∧ (∀ (x1 x2 x3 x4 x5 x6 : Int) (h : Hp), Lay h → g_X11_odds n 4 [x1, x2, x3, x4, x5, x6] h = some r → X E mX11_odds (d + 8) (0, 0) (0, 0) 109 [some (xr 11 0), some (xi x1), some (xi x2), some (xi x3), some (xi x4), some (xi x5), some (xi x6), none] [] h (PoI r)) := by
  intro n
  induction n with
  | zero => exact ⟨fun _ _ _ _ hF => no_e (r := r) hF, fun _ _ _ _ hF => no_e (r := r) hF, fun _ _ _ _ _ _ _ _ hF => no_e (r := r) hF, fun _ _ _ _ _ _ _ _ _ hF => no_e (r := r) hF, fun _ _ _ _ _ _ _ _ hF => no_e (r := r) hF⟩
  | succ n ih => exact ⟨fun x1 x2 h hL hF => t_X11_odds_0 E d (g_X11_odds n) r ih.2.1 x1 x2 h hL hF, fun x1 x2 h hL hF => t_X11_odds_1 E d (g_X11_odds n) r ih.2.2.1 x1 x2 h hL hF, fun x1 x2 x3 x4 x5 x6 h hL hF => t_X11_odds_2 E d (g_X11_odds n) r ih.2.2.2.1 ih.2.2.2.2 x1 x2 x3 x4 x5 x6 h hL hF, fun x1 x2 x3 x5 x6 y0 y1 h hL hF => t_X11_odds_3 E d (g_X11_odds n) r ih.2.2.2.2 x1 x2 x3 x5 x6 y0 y1 h hL hF, fun x1 x2 x3 x4 x5 x6 h hL hF => t_X11_odds_4 E d (g_X11_odds n) r ih.2.2.1 x1 x2 x3 x4 x5 x6 h hL hF⟩
theorem c_X11_odds (d : Nat) (x1 x2 : Int) (h : Hp) (r : Int × Hp) (hL : Lay h) (hF : f_X11_odds x1 x2 h = some r) : Sp mX11_odds (d + 8) (0, 0) [xr 11 0, xi x1, xi x2] h (PoI r) :=
  sp_of (by decide) rfl (Nat.le_of_ble_eq_true rfl) (ls := [some (xr 11 0), some (xi x1), some (xi x2), none, none, none, none, none]) rfl (fun E _ => (u_X11_odds E d r FU).1 x1 x2 h hL hF)
theorem dX11_plan_0 : decode cX11_plan 0 = .ok (.iload_n 1, 1) := by decide +kernel
theorem dX11_plan_1 : decode cX11_plan 1 = .ok (.iconst 1, 1) := by decide +kernel
theorem dX11_plan_2 : decode cX11_plan 2 = .ok (.if_icmp .lt 32, 3) := by decide +kernel
theorem dX11_plan_5 : decode cX11_plan 5 = .ok (.iload_n 1, 1) := by decide +kernel
theorem dX11_plan_6 : decode cX11_plan 6 = .ok (.iconst 3, 1) := by decide +kernel
theorem dX11_plan_7 : decode cX11_plan 7 = .ok (.if_icmp .gt 27, 3) := by decide +kernel
theorem dX11_plan_10 : decode cX11_plan 10 = .ok (.iload_n 2, 1) := by decide +kernel
theorem dX11_plan_11 : decode cX11_plan 11 = .ok (.iconst (-1), 1) := by decide +kernel
theorem dX11_plan_12 : decode cX11_plan 12 = .ok (.if_icmp .lt 22, 3) := by decide +kernel
theorem dX11_plan_15 : decode cX11_plan 15 = .ok (.iload_n 2, 1) := by decide +kernel
theorem dX11_plan_16 : decode cX11_plan 16 = .ok (.iconst 3, 1) := by decide +kernel
theorem dX11_plan_17 : decode cX11_plan 17 = .ok (.if_icmp .ge 17, 3) := by decide +kernel
theorem dX11_plan_20 : decode cX11_plan 20 = .ok (.aload_n 0, 1) := by decide +kernel
theorem dX11_plan_21 : decode cX11_plan 21 = .ok (.getfield 57, 3) := by decide +kernel
theorem dX11_plan_24 : decode cX11_plan 24 = .ok (.getfield 195, 3) := by decide +kernel
theorem dX11_plan_27 : decode cX11_plan 27 = .ok (.iload_n 1, 1) := by decide +kernel
theorem dX11_plan_28 : decode cX11_plan 28 = .ok (.iadd, 1) := by decide +kernel
theorem dX11_plan_29 : decode cX11_plan 29 = .ok (.bipush 60, 2) := by decide +kernel
theorem dX11_plan_31 : decode cX11_plan 31 = .ok (.if_icmp .le 5, 3) := by decide +kernel
theorem dX11_plan_34 : decode cX11_plan 34 = .ok (.iconst (-1), 1) := by decide +kernel
theorem dX11_plan_35 : decode cX11_plan 35 = .ok (.ireturn, 1) := by decide +kernel
theorem dX11_plan_36 : decode cX11_plan 36 = .ok (.aload_n 0, 1) := by decide +kernel
theorem dX11_plan_37 : decode cX11_plan 37 = .ok (.getfield 50, 3) := by decide +kernel
theorem dX11_plan_40 : decode cX11_plan 40 = .ok (.aload_n 0, 1) := by decide +kernel
theorem dX11_plan_41 : decode cX11_plan 41 = .ok (.getfield 57, 3) := by decide +kernel
theorem dX11_plan_44 : decode cX11_plan 44 = .ok (.iload_n 1, 1) := by decide +kernel
theorem dX11_plan_45 : decode cX11_plan 45 = .ok (.invokevirtual 276, 3) := by decide +kernel
theorem dX11_plan_48 : decode cX11_plan 48 = .ok (.aload_n 0, 1) := by decide +kernel
theorem dX11_plan_49 : decode cX11_plan 49 = .ok (.getfield 50, 3) := by decide +kernel
theorem dX11_plan_52 : decode cX11_plan 52 = .ok (.getfield 279, 3) := by decide +kernel
theorem dX11_plan_55 : decode cX11_plan 55 = .ok (.iconst (-1), 1) := by decide +kernel
theorem dX11_plan_56 : decode cX11_plan 56 = .ok (.if_icmp .ne 6, 3) := by decide +kernel
theorem dX11_plan_59 : decode cX11_plan 59 = .ok (.bipush (-2), 2) := by decide +kernel
theorem dX11_plan_61 : decode cX11_plan 61 = .ok (.ireturn, 1) := by decide +kernel
theorem dX11_plan_62 : decode cX11_plan 62 = .ok (.iload_n 2, 1) := by decide +kernel
theorem dX11_plan_63 : decode cX11_plan 63 = .ok (.iconst (-1), 1) := by decide +kernel
theorem dX11_plan_64 : decode cX11_plan 64 = .ok (.if_icmp .ne 11, 3) := by decide +kernel
theorem dX11_plan_67 : decode cX11_plan 67 = .ok (.aload_n 0, 1) := by decide +kernel
theorem dX11_plan_68 : decode cX11_plan 68 = .ok (.getfield 50, 3) := by decide +kernel
theorem dX11_plan_71 : decode cX11_plan 71 = .ok (.getfield 282, 3) := by decide +kernel
theorem dX11_plan_74 : decode cX11_plan 74 = .ok (.ireturn, 1) := by decide +kernel
theorem dX11_plan_75 : decode cX11_plan 75 = .ok (.iload_n 2, 1) := by decide +kernel
theorem dX11_plan_76 : decode cX11_plan 76 = .ok (.aload_n 0, 1) := by decide +kernel
theorem dX11_plan_77 : decode cX11_plan 77 = .ok (.getfield 50, 3) := by decide +kernel
theorem dX11_plan_80 : decode cX11_plan 80 = .ok (.getfield 279, 3) := by decide +kernel
theorem dX11_plan_83 : decode cX11_plan 83 = .ok (.if_icmp .ge 15, 3) := by decide +kernel
theorem dX11_plan_86 : decode cX11_plan 86 = .ok (.aload_n 0, 1) := by decide +kernel
theorem dX11_plan_87 : decode cX11_plan 87 = .ok (.getfield 50, 3) := by decide +kernel
theorem dX11_plan_90 : decode cX11_plan 90 = .ok (.getfield 285, 3) := by decide +kernel
theorem dX11_plan_93 : decode cX11_plan 93 = .ok (.iload_n 2, 1) := by decide +kernel
theorem dX11_plan_94 : decode cX11_plan 94 = .ok (.iaload, 1) := by decide +kernel
theorem dX11_plan_95 : decode cX11_plan 95 = .ok (.goto 5, 3) := by decide +kernel
theorem dX11_plan_98 : decode cX11_plan 98 = .ok (.bipush (-2), 2) := by decide +kernel
theorem dX11_plan_100 : decode cX11_plan 100 = .ok (.ireturn, 1) := by decide +kernel
noncomputable def b_X11_plan_0 (rec : Rk) (x1 x2 : Int) (h : Hp) : Option (Int × Hp) :=
  if x1 < 1 then (
    some ((-1), h)
  ) else (
    if 3 < x1 then (
      some ((-1), h)
    ) else (
      if x2 < (-1) then (
        some ((-1), h)
      ) else (
        if 3 ≤ x2 then (
          some ((-1), h)
        ) else (
          ck (-2147483648 ≤ (gI h 10 0 0) + x1 ∧ (gI h 10 0 0) + x1 < 2147483648) <|
          if ((gI h 10 0 0) + x1) ≤ 60 then (
            bd (f_X6_find 0 x1 h) fun v1 h2 =>
            if (gI h2 6 0 5) = (-1) then (
              some ((-2), h2)
            ) else (
              if x2 = (-1) then (
                some (gI h2 6 0 4, h2)
              ) else (
                if (gI h2 6 0 5) ≤ x2 then (
                  some ((-2), h2)
                ) else (
                  ck (0 ≤ x2 ∧ x2 < 3) <|
                  some (gI h2 45 0 x2, h2)
                )
              )
            )
          ) else (
            some ((-1), h)
          )
        )
      )
    )
  )
noncomputable def g_X11_plan (n : Nat) : Rk := Nat.rec (motive := fun _ => Rk) (fun _ _ _ => none) (fun _ rec k l h => if k = 0 then b_X11_plan_0 rec (l.getD 0 0) (l.getD 1 0) h else none) n
noncomputable def f_X11_plan (x1 x2 : Int) (h : Hp) : Option (Int × Hp) := g_X11_plan FU 0 [x1, x2] h
set_option maxHeartbeats 4000000 in
set_option maxRecDepth 100000 in
theorem t_X11_plan_0 (E : xE) (d : Nat) (rec : Rk) (r : Int × Hp) (x1 x2 : Int) (h : Hp) (hL : Lay h) (hF : b_X11_plan_0 rec x1 x2 h = some r) : X E mX11_plan (d + 1007) (0, 0) (0, 0) 0 [some (xr 11 0), some (xi x1), some (xi x2)] [] h (PoI r) := by
  unfold b_X11_plan_0 at hF
  refine x_iload_n (i := 1) (b := 1) dX11_plan_0 rfl rfl rfl ?_
  refine x_iconst (n := 1) (b := 2) dX11_plan_1 (by decide) rfl ?_
  refine x_icmp_lt (tgt := 34) (b := 5) dX11_plan_2 (by decide) rfl (fun hc => ?_) (fun hc => ?_)
  · replace hF := br_T hc hF
    refine x_iconst (n := (-1)) (b := 35) dX11_plan_34 (by decide) rfl ?_
    refine x_ireturn dX11_plan_35 rfl ⟨Nat.le_refl _, Nat.le_refl _⟩ ?_
    cases hF
    exact ⟨rfl, rfl, hL⟩
  · replace hF := br_F hc hF
    refine x_iload_n (i := 1) (b := 6) dX11_plan_5 rfl rfl rfl ?_
    refine x_iconst (n := 3) (b := 7) dX11_plan_6 (by decide) rfl ?_
    refine x_icmp_gt (tgt := 34) (b := 10) dX11_plan_7 (by decide) rfl (fun hc => ?_) (fun hc => ?_)
    · replace hF := br_T hc hF
      refine x_iconst (n := (-1)) (b := 35) dX11_plan_34 (by decide) rfl ?_
      refine x_ireturn dX11_plan_35 rfl ⟨Nat.le_refl _, Nat.le_refl _⟩ ?_
      cases hF
      exact ⟨rfl, rfl, hL⟩
    · replace hF := br_F hc hF
      refine x_iload_n (i := 2) (b := 11) dX11_plan_10 rfl rfl rfl ?_
      refine x_iconst (n := (-1)) (b := 12) dX11_plan_11 (by decide) rfl ?_
      refine x_icmp_lt (tgt := 34) (b := 15) dX11_plan_12 (by decide) rfl (fun hc => ?_) (fun hc => ?_)
      · replace hF := br_T hc hF
        refine x_iconst (n := (-1)) (b := 35) dX11_plan_34 (by decide) rfl ?_
        refine x_ireturn dX11_plan_35 rfl ⟨Nat.le_refl _, Nat.le_refl _⟩ ?_
        cases hF
        exact ⟨rfl, rfl, hL⟩
      · replace hF := br_F hc hF
        refine x_iload_n (i := 2) (b := 16) dX11_plan_15 rfl rfl rfl ?_
        refine x_iconst (n := 3) (b := 17) dX11_plan_16 (by decide) rfl ?_
        refine x_icmp_ge (tgt := 34) (b := 20) dX11_plan_17 (by decide) rfl (fun hc => ?_) (fun hc => ?_)
        · replace hF := br_T hc hF
          refine x_iconst (n := (-1)) (b := 35) dX11_plan_34 (by decide) rfl ?_
          refine x_ireturn dX11_plan_35 rfl ⟨Nat.le_refl _, Nat.le_refl _⟩ ?_
          cases hF
          exact ⟨rfl, rfl, hL⟩
        · replace hF := br_F hc hF
          refine x_aload_n (i := 0) (b := 21) dX11_plan_20 rfl rfl rfl ?_
          refine x_getL (j := 0) (t := (10, 0, false)) (b := 24) fk_X11_57 dX11_plan_21 rfl hL rfl rfl rfl ?_
          refine x_getI (v := gI h 10 0 0) (b := 27) fk_X11_195 dX11_plan_24 (by decide) rfl rfl ?_
          refine x_iload_n (i := 1) (b := 28) dX11_plan_27 rfl rfl rfl ?_
          obtain ⟨hs, hF⟩ := ck_e hF
          refine x_iadd (b := 29) dX11_plan_28 hs rfl ?_
          refine x_bipush (n := 60) (b := 31) dX11_plan_29 (by decide) rfl ?_
          refine x_icmp_le (tgt := 36) (b := 34) dX11_plan_31 (by decide) rfl (fun hc => ?_) (fun hc => ?_)
          · replace hF := br_T hc hF
            refine x_aload_n (i := 0) (b := 37) dX11_plan_36 rfl rfl rfl ?_
            refine x_getL (j := 0) (t := (6, 0, false)) (b := 40) fk_X11_50 dX11_plan_37 rfl hL rfl rfl rfl ?_
            refine x_aload_n (i := 0) (b := 41) dX11_plan_40 rfl rfl rfl ?_
            refine x_getL (j := 0) (t := (10, 0, false)) (b := 44) fk_X11_57 dX11_plan_41 rfl hL rfl rfl rfl ?_
            refine x_iload_n (i := 1) (b := 45) dX11_plan_44 rfl rfl rfl ?_
            obtain ⟨v1, h2, hq, hF⟩ := bd_e hF
            refine x_callV (as := [xr 10 0, xi x1]) (rest := []) (b := 48) (c_X6_find d 0 x1 h _ hL hq) dX11_plan_45 cw_X11_276 ⟨_, _, rfl, Nat.le_of_ble_eq_true rfl⟩ rfl rfl (Nat.le_of_ble_eq_true rfl) ⟨Nat.le_refl _, Nat.le_refl _⟩ rfl (fun rv hh hp _ => ?_)
            obtain ⟨rfl, rfl, hL⟩ := hp
            refine x_aload_n (i := 0) (b := 49) dX11_plan_48 rfl rfl rfl ?_
            refine x_getL (j := 0) (t := (6, 0, false)) (b := 52) fk_X11_50 dX11_plan_49 rfl hL rfl rfl rfl ?_
            refine x_getI (v := gI h2 6 0 5) (b := 55) fk_X11_279 dX11_plan_52 (by decide) rfl rfl ?_
            refine x_iconst (n := (-1)) (b := 56) dX11_plan_55 (by decide) rfl ?_
            refine x_icmp_ne (tgt := 62) (b := 59) dX11_plan_56 (by decide) rfl (fun hc => ?_) (fun hc => ?_)
            · replace hF := br_F hc hF
              refine x_iload_n (i := 2) (b := 63) dX11_plan_62 rfl rfl rfl ?_
              refine x_iconst (n := (-1)) (b := 64) dX11_plan_63 (by decide) rfl ?_
              refine x_icmp_ne (tgt := 75) (b := 67) dX11_plan_64 (by decide) rfl (fun hc => ?_) (fun hc => ?_)
              · replace hF := br_F hc hF
                refine x_iload_n (i := 2) (b := 76) dX11_plan_75 rfl rfl rfl ?_
                refine x_aload_n (i := 0) (b := 77) dX11_plan_76 rfl rfl rfl ?_
                refine x_getL (j := 0) (t := (6, 0, false)) (b := 80) fk_X11_50 dX11_plan_77 rfl hL rfl rfl rfl ?_
                refine x_getI (v := gI h2 6 0 5) (b := 83) fk_X11_279 dX11_plan_80 (by decide) rfl rfl ?_
                refine x_icmp_ge (tgt := 98) (b := 86) dX11_plan_83 (by decide) rfl (fun hc => ?_) (fun hc => ?_)
                · replace hF := br_T hc hF
                  refine x_bipush (n := (-2)) (b := 100) dX11_plan_98 (by decide) rfl ?_
                  refine x_ireturn dX11_plan_100 rfl ⟨Nat.le_refl _, Nat.le_refl _⟩ ?_
                  cases hF
                  exact ⟨rfl, rfl, hL⟩
                · replace hF := br_F hc hF
                  refine x_aload_n (i := 0) (b := 87) dX11_plan_86 rfl rfl rfl ?_
                  refine x_getL (j := 0) (t := (6, 0, false)) (b := 90) fk_X11_50 dX11_plan_87 rfl hL rfl rfl rfl ?_
                  refine x_getL (j := 0) (t := (45, 0, true)) (b := 93) fk_X11_285 dX11_plan_90 rfl hL rfl rfl rfl ?_
                  refine x_iload_n (i := 2) (b := 94) dX11_plan_93 rfl rfl rfl ?_
                  obtain ⟨hs, hF⟩ := ck_e hF
                  refine x_iald (v := gI h2 45 0 x2) (b := 95) ak_45 dX11_plan_94 hs rfl rfl ?_
                  refine x_goto (tgt := 100) dX11_plan_95 (by decide) ?_
                  refine x_ireturn dX11_plan_100 rfl ⟨Nat.le_refl _, Nat.le_refl _⟩ ?_
                  cases hF
                  exact ⟨rfl, rfl, hL⟩
              · replace hF := br_T hc hF
                refine x_aload_n (i := 0) (b := 68) dX11_plan_67 rfl rfl rfl ?_
                refine x_getL (j := 0) (t := (6, 0, false)) (b := 71) fk_X11_50 dX11_plan_68 rfl hL rfl rfl rfl ?_
                refine x_getI (v := gI h2 6 0 4) (b := 74) fk_X11_282 dX11_plan_71 (by decide) rfl rfl ?_
                refine x_ireturn dX11_plan_74 rfl ⟨Nat.le_refl _, Nat.le_refl _⟩ ?_
                cases hF
                exact ⟨rfl, rfl, hL⟩
            · replace hF := br_T hc hF
              refine x_bipush (n := (-2)) (b := 61) dX11_plan_59 (by decide) rfl ?_
              refine x_ireturn dX11_plan_61 rfl ⟨Nat.le_refl _, Nat.le_refl _⟩ ?_
              cases hF
              exact ⟨rfl, rfl, hL⟩
          · replace hF := br_F hc hF
            refine x_iconst (n := (-1)) (b := 35) dX11_plan_34 (by decide) rfl ?_
            refine x_ireturn dX11_plan_35 rfl ⟨Nat.le_refl _, Nat.le_refl _⟩ ?_
            cases hF
            exact ⟨rfl, rfl, hL⟩
set_option maxHeartbeats 4000000 in
set_option maxRecDepth 100000 in
theorem u_X11_plan (E : xE) (d : Nat) (r : Int × Hp) : ∀ n : Nat, (∀ (x1 x2 : Int) (h : Hp), Lay h → g_X11_plan n 0 [x1, x2] h = some r → X E mX11_plan (d + 1007) (0, 0) (0, 0) 0 [some (xr 11 0), some (xi x1), some (xi x2)] [] h (PoI r)) := by
  intro n
  induction n with
  | zero => exact fun _ _ _ _ hF => no_e (r := r) hF
  | succ n ih => exact fun x1 x2 h hL hF => t_X11_plan_0 E d (g_X11_plan n) r  x1 x2 h hL hF
theorem c_X11_plan (d : Nat) (x1 x2 : Int) (h : Hp) (r : Int × Hp) (hL : Lay h) (hF : f_X11_plan x1 x2 h = some r) : Sp mX11_plan (d + 1007) (0, 0) [xr 11 0, xi x1, xi x2] h (PoI r) :=
  sp_of (by decide) rfl (Nat.le_of_ble_eq_true rfl) (ls := [some (xr 11 0), some (xi x1), some (xi x2)]) rfl (fun E _ => (u_X11_plan E d r FU) x1 x2 h hL hF)
theorem dX11_sure_0 : decode cX11_sure 0 = .ok (.iload_n 1, 1) := by decide +kernel
theorem dX11_sure_1 : decode cX11_sure 1 = .ok (.ifCond .lt 14, 3) := by decide +kernel
theorem dX11_sure_4 : decode cX11_sure 4 = .ok (.iload_n 1, 1) := by decide +kernel
theorem dX11_sure_5 : decode cX11_sure 5 = .ok (.aload_n 0, 1) := by decide +kernel
theorem dX11_sure_6 : decode cX11_sure 6 = .ok (.getfield 20, 3) := by decide +kernel
theorem dX11_sure_9 : decode cX11_sure 9 = .ok (.getfield 237, 3) := by decide +kernel
theorem dX11_sure_12 : decode cX11_sure 12 = .ok (.if_icmp .lt 5, 3) := by decide +kernel
theorem dX11_sure_15 : decode cX11_sure 15 = .ok (.iconst (-1), 1) := by decide +kernel
theorem dX11_sure_16 : decode cX11_sure 16 = .ok (.ireturn, 1) := by decide +kernel
theorem dX11_sure_17 : decode cX11_sure 17 = .ok (.aload_n 0, 1) := by decide +kernel
theorem dX11_sure_18 : decode cX11_sure 18 = .ok (.invokevirtual 314, 3) := by decide +kernel
theorem dX11_sure_21 : decode cX11_sure 21 = .ok (.istore_n 2, 1) := by decide +kernel
theorem dX11_sure_22 : decode cX11_sure 22 = .ok (.iload_n 2, 1) := by decide +kernel
theorem dX11_sure_23 : decode cX11_sure 23 = .ok (.ifCond .ne 6, 3) := by decide +kernel
theorem dX11_sure_26 : decode cX11_sure 26 = .ok (.bipush (-2), 2) := by decide +kernel
theorem dX11_sure_28 : decode cX11_sure 28 = .ok (.ireturn, 1) := by decide +kernel
theorem dX11_sure_29 : decode cX11_sure 29 = .ok (.iconst 0, 1) := by decide +kernel
theorem dX11_sure_30 : decode cX11_sure 30 = .ok (.istore_n 3, 1) := by decide +kernel
theorem dX11_sure_31 : decode cX11_sure 31 = .ok (.iconst 0, 1) := by decide +kernel
theorem dX11_sure_32 : decode cX11_sure 32 = .ok (.istore 4, 2) := by decide +kernel
theorem dX11_sure_34 : decode cX11_sure 34 = .ok (.iconst 0, 1) := by decide +kernel
theorem dX11_sure_35 : decode cX11_sure 35 = .ok (.istore 5, 2) := by decide +kernel
theorem dX11_sure_37 : decode cX11_sure 37 = .ok (.iload 5, 2) := by decide +kernel
theorem dX11_sure_39 : decode cX11_sure 39 = .ok (.iconst 1, 1) := by decide +kernel
theorem dX11_sure_40 : decode cX11_sure 40 = .ok (.aload_n 0, 1) := by decide +kernel
theorem dX11_sure_41 : decode cX11_sure 41 = .ok (.getfield 20, 3) := by decide +kernel
theorem dX11_sure_44 : decode cX11_sure 44 = .ok (.getfield 237, 3) := by decide +kernel
theorem dX11_sure_47 : decode cX11_sure 47 = .ok (.ishl, 1) := by decide +kernel
theorem dX11_sure_48 : decode cX11_sure 48 = .ok (.if_icmp .ge 42, 3) := by decide +kernel
theorem dX11_sure_51 : decode cX11_sure 51 = .ok (.iload_n 2, 1) := by decide +kernel
theorem dX11_sure_52 : decode cX11_sure 52 = .ok (.iload 5, 2) := by decide +kernel
theorem dX11_sure_54 : decode cX11_sure 54 = .ok (.ishr, 1) := by decide +kernel
theorem dX11_sure_55 : decode cX11_sure 55 = .ok (.iconst 1, 1) := by decide +kernel
theorem dX11_sure_56 : decode cX11_sure 56 = .ok (.iand, 1) := by decide +kernel
theorem dX11_sure_57 : decode cX11_sure 57 = .ok (.istore 6, 2) := by decide +kernel
theorem dX11_sure_59 : decode cX11_sure 59 = .ok (.iload 5, 2) := by decide +kernel
theorem dX11_sure_61 : decode cX11_sure 61 = .ok (.iload_n 1, 1) := by decide +kernel
theorem dX11_sure_62 : decode cX11_sure 62 = .ok (.ishr, 1) := by decide +kernel
theorem dX11_sure_63 : decode cX11_sure 63 = .ok (.iconst 1, 1) := by decide +kernel
theorem dX11_sure_64 : decode cX11_sure 64 = .ok (.iand, 1) := by decide +kernel
theorem dX11_sure_65 : decode cX11_sure 65 = .ok (.iconst 1, 1) := by decide +kernel
theorem dX11_sure_66 : decode cX11_sure 66 = .ok (.if_icmp .ne 11, 3) := by decide +kernel
theorem dX11_sure_69 : decode cX11_sure 69 = .ok (.iload_n 3, 1) := by decide +kernel
theorem dX11_sure_70 : decode cX11_sure 70 = .ok (.iload 6, 2) := by decide +kernel
theorem dX11_sure_72 : decode cX11_sure 72 = .ok (.iadd, 1) := by decide +kernel
theorem dX11_sure_73 : decode cX11_sure 73 = .ok (.istore_n 3, 1) := by decide +kernel
theorem dX11_sure_74 : decode cX11_sure 74 = .ok (.goto 10, 3) := by decide +kernel
theorem dX11_sure_77 : decode cX11_sure 77 = .ok (.iload 4, 2) := by decide +kernel
theorem dX11_sure_79 : decode cX11_sure 79 = .ok (.iload 6, 2) := by decide +kernel
theorem dX11_sure_81 : decode cX11_sure 81 = .ok (.iadd, 1) := by decide +kernel
theorem dX11_sure_82 : decode cX11_sure 82 = .ok (.istore 4, 2) := by decide +kernel
theorem dX11_sure_84 : decode cX11_sure 84 = .ok (.iinc 5 1, 3) := by decide +kernel
theorem dX11_sure_87 : decode cX11_sure 87 = .ok (.goto (-50), 3) := by decide +kernel
theorem dX11_sure_90 : decode cX11_sure 90 = .ok (.iload 4, 2) := by decide +kernel
theorem dX11_sure_92 : decode cX11_sure 92 = .ok (.ifCond .ne 5, 3) := by decide +kernel
theorem dX11_sure_95 : decode cX11_sure 95 = .ok (.iconst 1, 1) := by decide +kernel
theorem dX11_sure_96 : decode cX11_sure 96 = .ok (.ireturn, 1) := by decide +kernel
theorem dX11_sure_97 : decode cX11_sure 97 = .ok (.iload_n 3, 1) := by decide +kernel
theorem dX11_sure_98 : decode cX11_sure 98 = .ok (.ifCond .ne 7, 3) := by decide +kernel
theorem dX11_sure_101 : decode cX11_sure 101 = .ok (.iconst 0, 1) := by decide +kernel
theorem dX11_sure_102 : decode cX11_sure 102 = .ok (.goto 4, 3) := by decide +kernel
theorem dX11_sure_105 : decode cX11_sure 105 = .ok (.iconst 2, 1) := by decide +kernel
theorem dX11_sure_106 : decode cX11_sure 106 = .ok (.ireturn, 1) := by decide +kernel
noncomputable def b_X11_sure_0 (rec : Rk) (x1 : Int) (h : Hp) : Option (Int × Hp) :=
  if x1 < 0 then (
    some ((-1), h)
  ) else (
    rf (gR h 11 0 2) 0 fun j1 =>
    if x1 < (gI h 0 j1 4) then (
      bd (f_X11_fitting h) fun v2 h3 =>
      if v2 = 0 then (
        some ((-2), h3)
      ) else (
        rec 1 [x1, v2, 0, 0, 0] h3
      )
    ) else (
      some ((-1), h)
    )
  )
noncomputable def b_X11_sure_1 (rec : Rk) (x1 x2 x3 x4 x5 : Int) (h : Hp) : Option (Int × Hp) :=
  rf (gR h 11 0 2) 0 fun j1 =>
  if (bshl 1 (gI h 0 j1 4)) ≤ x5 then (
    if x4 = 0 then (
      some (1, h)
    ) else (
      if x3 = 0 then (
        some (0, h)
      ) else (
        some (2, h)
      )
    )
  ) else (
    lt (band (bshr x2 x5) 1) fun z2 =>
    if (band (bshr x5 x1) 1) = 1 then (
      ck (-2147483648 ≤ x3 + z2 ∧ x3 + z2 < 2147483648) <|
      lt (x3 + z2) fun z3 =>
      rec 2 [x1, x2, z3, x4, x5] h
    ) else (
      ck (-2147483648 ≤ x4 + z2 ∧ x4 + z2 < 2147483648) <|
      lt (x4 + z2) fun z4 =>
      rec 2 [x1, x2, x3, z4, x5] h
    )
  )
noncomputable def b_X11_sure_2 (rec : Rk) (x1 x2 x3 x4 x5 : Int) (h : Hp) : Option (Int × Hp) :=
  ck (-2147483648 ≤ x5 + 1 ∧ x5 + 1 < 2147483648) <|
  rec 1 [x1, x2, x3, x4, x5 + 1] h
noncomputable def g_X11_sure (n : Nat) : Rk := Nat.rec (motive := fun _ => Rk) (fun _ _ _ => none) (fun _ rec k l h => if k = 0 then b_X11_sure_0 rec (l.getD 0 0) h else if k = 1 then b_X11_sure_1 rec (l.getD 0 0) (l.getD 1 0) (l.getD 2 0) (l.getD 3 0) (l.getD 4 0) h else if k = 2 then b_X11_sure_2 rec (l.getD 0 0) (l.getD 1 0) (l.getD 2 0) (l.getD 3 0) (l.getD 4 0) h else none) n
noncomputable def f_X11_sure (x1 : Int) (h : Hp) : Option (Int × Hp) := g_X11_sure FU 0 [x1] h
set_option maxHeartbeats 4000000 in
set_option maxRecDepth 100000 in
theorem t_X11_sure_0 (E : xE) (d : Nat) (rec : Rk) (r : Int × Hp) (hr_37 : ∀ (x1 x2 x3 x4 x5 : Int) (h : Hp), Lay h → rec 1 [x1, x2, x3, x4, x5] h = some r → X E mX11_sure (d + 8) (0, 0) (0, 0) 37 [some (xr 11 0), some (xi x1), some (xi x2), some (xi x3), some (xi x4), some (xi x5), none] [] h (PoI r)) (x1 : Int) (h : Hp) (hL : Lay h) (hF : b_X11_sure_0 rec x1 h = some r) : X E mX11_sure (d + 8) (0, 0) (0, 0) 0 [some (xr 11 0), some (xi x1), none, none, none, none, none] [] h (PoI r) := by
  unfold b_X11_sure_0 at hF
  refine x_iload_n (i := 1) (b := 1) dX11_sure_0 rfl rfl rfl ?_
  refine x_if_lt (tgt := 15) (b := 4) dX11_sure_1 (by decide) rfl (fun hc => ?_) (fun hc => ?_)
  · replace hF := br_T hc hF
    refine x_iconst (n := (-1)) (b := 16) dX11_sure_15 (by decide) rfl ?_
    refine x_ireturn dX11_sure_16 rfl ⟨Nat.le_refl _, Nat.le_refl _⟩ ?_
    cases hF
    exact ⟨rfl, rfl, hL⟩
  · replace hF := br_F hc hF
    refine x_iload_n (i := 1) (b := 5) dX11_sure_4 rfl rfl rfl ?_
    refine x_aload_n (i := 0) (b := 6) dX11_sure_5 rfl rfl rfl ?_
    obtain ⟨j1, e_j1, hF⟩ := rf_e hF
    refine x_getR (v := some (0, j1)) (b := 9) fk_X11_20 dX11_sure_6 rfl e_j1 rfl ?_
    refine x_getI (v := gI h 0 j1 4) (b := 12) fk_X11_237 dX11_sure_9 (by decide) rfl rfl ?_
    refine x_icmp_lt (tgt := 17) (b := 15) dX11_sure_12 (by decide) rfl (fun hc => ?_) (fun hc => ?_)
    · replace hF := br_T hc hF
      refine x_aload_n (i := 0) (b := 18) dX11_sure_17 rfl rfl rfl ?_
      obtain ⟨v2, h3, hq, hF⟩ := bd_e hF
      refine x_callV (as := []) (rest := []) (b := 21) (c_X11_fitting d h _ hL hq) dX11_sure_18 cw_X11_314 ⟨_, _, rfl, Nat.le_of_ble_eq_true rfl⟩ rfl rfl (Nat.le_of_ble_eq_true rfl) ⟨Nat.le_refl _, Nat.le_refl _⟩ rfl (fun rv hh hp _ => ?_)
      obtain ⟨rfl, rfl, hL⟩ := hp
      refine x_istore_n (i := 2) (b := 22) (ls2 := [some (xr 11 0), some (xi x1), some (xi v2), none, none, none, none]) dX11_sure_21 rfl (Nat.le_of_ble_eq_true rfl) rfl rfl ?_
      refine x_iload_n (i := 2) (b := 23) dX11_sure_22 rfl rfl rfl ?_
      refine x_if_ne (tgt := 29) (b := 26) dX11_sure_23 (by decide) rfl (fun hc => ?_) (fun hc => ?_)
      · replace hF := br_F hc hF
        refine x_iconst (n := 0) (b := 30) dX11_sure_29 (by decide) rfl ?_
        refine x_istore_n (i := 3) (b := 31) (ls2 := [some (xr 11 0), some (xi x1), some (xi v2), some (xi 0), none, none, none]) dX11_sure_30 rfl (Nat.le_of_ble_eq_true rfl) rfl rfl ?_
        refine x_iconst (n := 0) (b := 32) dX11_sure_31 (by decide) rfl ?_
        refine x_istore (i := 4) (b := 34) (ls2 := [some (xr 11 0), some (xi x1), some (xi v2), some (xi 0), some (xi 0), none, none]) dX11_sure_32 (Nat.le_of_ble_eq_true rfl) rfl rfl ?_
        refine x_iconst (n := 0) (b := 35) dX11_sure_34 (by decide) rfl ?_
        refine x_istore (i := 5) (b := 37) (ls2 := [some (xr 11 0), some (xi x1), some (xi v2), some (xi 0), some (xi 0), some (xi 0), none]) dX11_sure_35 (Nat.le_of_ble_eq_true rfl) rfl rfl ?_
        exact x_dp (ls2 := [some (xr 11 0), some (xi x1), some (xi v2), some (xi 0), some (xi 0), some (xi 0), none]) ⟨rfl, rfl, rfl, rfl, rfl, rfl, trivial⟩ (hr_37 x1 v2 0 0 0 h3 hL hF)
      · replace hF := br_T hc hF
        refine x_bipush (n := (-2)) (b := 28) dX11_sure_26 (by decide) rfl ?_
        refine x_ireturn dX11_sure_28 rfl ⟨Nat.le_refl _, Nat.le_refl _⟩ ?_
        cases hF
        exact ⟨rfl, rfl, hL⟩
    · replace hF := br_F hc hF
      refine x_iconst (n := (-1)) (b := 16) dX11_sure_15 (by decide) rfl ?_
      refine x_ireturn dX11_sure_16 rfl ⟨Nat.le_refl _, Nat.le_refl _⟩ ?_
      cases hF
      exact ⟨rfl, rfl, hL⟩
set_option maxHeartbeats 4000000 in
set_option maxRecDepth 100000 in
theorem t_X11_sure_1 (E : xE) (d : Nat) (rec : Rk) (r : Int × Hp) (hr_84 : ∀ (x1 x2 x3 x4 x5 : Int) (h : Hp), Lay h → rec 2 [x1, x2, x3, x4, x5] h = some r → X E mX11_sure (d + 8) (0, 0) (0, 0) 84 [some (xr 11 0), some (xi x1), some (xi x2), some (xi x3), some (xi x4), some (xi x5), none] [] h (PoI r)) (x1 x2 x3 x4 x5 : Int) (h : Hp) (hL : Lay h) (hF : b_X11_sure_1 rec x1 x2 x3 x4 x5 h = some r) : X E mX11_sure (d + 8) (0, 0) (0, 0) 37 [some (xr 11 0), some (xi x1), some (xi x2), some (xi x3), some (xi x4), some (xi x5), none] [] h (PoI r) := by
  unfold b_X11_sure_1 at hF
  refine x_iload (i := 5) (b := 39) dX11_sure_37 rfl rfl ?_
  refine x_iconst (n := 1) (b := 40) dX11_sure_39 (by decide) rfl ?_
  refine x_aload_n (i := 0) (b := 41) dX11_sure_40 rfl rfl rfl ?_
  obtain ⟨j1, e_j1, hF⟩ := rf_e hF
  refine x_getR (v := some (0, j1)) (b := 44) fk_X11_20 dX11_sure_41 rfl e_j1 rfl ?_
  refine x_getI (v := gI h 0 j1 4) (b := 47) fk_X11_237 dX11_sure_44 (by decide) rfl rfl ?_
  refine x_ishl (b := 48) dX11_sure_47 rfl ?_
  refine x_icmp_ge (tgt := 90) (b := 51) dX11_sure_48 (by decide) rfl (fun hc => ?_) (fun hc => ?_)
  · replace hF := br_T hc hF
    refine x_iload (i := 4) (b := 92) dX11_sure_90 rfl rfl ?_
    refine x_if_ne (tgt := 97) (b := 95) dX11_sure_92 (by decide) rfl (fun hc => ?_) (fun hc => ?_)
    · replace hF := br_F hc hF
      refine x_iload_n (i := 3) (b := 98) dX11_sure_97 rfl rfl rfl ?_
      refine x_if_ne (tgt := 105) (b := 101) dX11_sure_98 (by decide) rfl (fun hc => ?_) (fun hc => ?_)
      · replace hF := br_F hc hF
        refine x_iconst (n := 2) (b := 106) dX11_sure_105 (by decide) rfl ?_
        refine x_ireturn dX11_sure_106 rfl ⟨Nat.le_refl _, Nat.le_refl _⟩ ?_
        cases hF
        exact ⟨rfl, rfl, hL⟩
      · replace hF := br_T hc hF
        refine x_iconst (n := 0) (b := 102) dX11_sure_101 (by decide) rfl ?_
        refine x_goto (tgt := 106) dX11_sure_102 (by decide) ?_
        refine x_ireturn dX11_sure_106 rfl ⟨Nat.le_refl _, Nat.le_refl _⟩ ?_
        cases hF
        exact ⟨rfl, rfl, hL⟩
    · replace hF := br_T hc hF
      refine x_iconst (n := 1) (b := 96) dX11_sure_95 (by decide) rfl ?_
      refine x_ireturn dX11_sure_96 rfl ⟨Nat.le_refl _, Nat.le_refl _⟩ ?_
      cases hF
      exact ⟨rfl, rfl, hL⟩
  · replace hF := br_F hc hF
    refine x_iload_n (i := 2) (b := 52) dX11_sure_51 rfl rfl rfl ?_
    refine x_iload (i := 5) (b := 54) dX11_sure_52 rfl rfl ?_
    refine x_ishr (b := 55) dX11_sure_54 rfl ?_
    refine x_iconst (n := 1) (b := 56) dX11_sure_55 (by decide) rfl ?_
    refine x_iand (b := 57) dX11_sure_56 rfl ?_
    obtain ⟨z2, e_z2, hF⟩ := lt_e hF
    refine x_eq (y := z2) e_z2 ?_
    refine x_istore (i := 6) (b := 59) (ls2 := [some (xr 11 0), some (xi x1), some (xi x2), some (xi x3), some (xi x4), some (xi x5), some (xi z2)]) dX11_sure_57 (Nat.le_of_ble_eq_true rfl) rfl rfl ?_
    refine x_iload (i := 5) (b := 61) dX11_sure_59 rfl rfl ?_
    refine x_iload_n (i := 1) (b := 62) dX11_sure_61 rfl rfl rfl ?_
    refine x_ishr (b := 63) dX11_sure_62 rfl ?_
    refine x_iconst (n := 1) (b := 64) dX11_sure_63 (by decide) rfl ?_
    refine x_iand (b := 65) dX11_sure_64 rfl ?_
    refine x_iconst (n := 1) (b := 66) dX11_sure_65 (by decide) rfl ?_
    refine x_icmp_ne (tgt := 77) (b := 69) dX11_sure_66 (by decide) rfl (fun hc => ?_) (fun hc => ?_)
    · replace hF := br_F hc hF
      refine x_iload (i := 4) (b := 79) dX11_sure_77 rfl rfl ?_
      refine x_iload (i := 6) (b := 81) dX11_sure_79 rfl rfl ?_
      obtain ⟨hs, hF⟩ := ck_e hF
      refine x_iadd (b := 82) dX11_sure_81 hs rfl ?_
      obtain ⟨z4, e_z4, hF⟩ := lt_e hF
      refine x_eq (y := z4) e_z4 ?_
      refine x_istore (i := 4) (b := 84) (ls2 := [some (xr 11 0), some (xi x1), some (xi x2), some (xi x3), some (xi z4), some (xi x5), some (xi z2)]) dX11_sure_82 (Nat.le_of_ble_eq_true rfl) rfl rfl ?_
      exact x_dp (ls2 := [some (xr 11 0), some (xi x1), some (xi x2), some (xi x3), some (xi z4), some (xi x5), none]) ⟨rfl, rfl, rfl, rfl, rfl, rfl, trivial⟩ (hr_84 x1 x2 x3 z4 x5 h hL hF)
    · replace hF := br_T hc hF
      refine x_iload_n (i := 3) (b := 70) dX11_sure_69 rfl rfl rfl ?_
      refine x_iload (i := 6) (b := 72) dX11_sure_70 rfl rfl ?_
      obtain ⟨hs, hF⟩ := ck_e hF
      refine x_iadd (b := 73) dX11_sure_72 hs rfl ?_
      obtain ⟨z3, e_z3, hF⟩ := lt_e hF
      refine x_eq (y := z3) e_z3 ?_
      refine x_istore_n (i := 3) (b := 74) (ls2 := [some (xr 11 0), some (xi x1), some (xi x2), some (xi z3), some (xi x4), some (xi x5), some (xi z2)]) dX11_sure_73 rfl (Nat.le_of_ble_eq_true rfl) rfl rfl ?_
      refine x_goto (tgt := 84) dX11_sure_74 (by decide) ?_
      exact x_dp (ls2 := [some (xr 11 0), some (xi x1), some (xi x2), some (xi z3), some (xi x4), some (xi x5), none]) ⟨rfl, rfl, rfl, rfl, rfl, rfl, trivial⟩ (hr_84 x1 x2 z3 x4 x5 h hL hF)
set_option maxHeartbeats 4000000 in
set_option maxRecDepth 100000 in
theorem t_X11_sure_2 (E : xE) (d : Nat) (rec : Rk) (r : Int × Hp) (hr_37 : ∀ (x1 x2 x3 x4 x5 : Int) (h : Hp), Lay h → rec 1 [x1, x2, x3, x4, x5] h = some r → X E mX11_sure (d + 8) (0, 0) (0, 0) 37 [some (xr 11 0), some (xi x1), some (xi x2), some (xi x3), some (xi x4), some (xi x5), none] [] h (PoI r)) (x1 x2 x3 x4 x5 : Int) (h : Hp) (hL : Lay h) (hF : b_X11_sure_2 rec x1 x2 x3 x4 x5 h = some r) : X E mX11_sure (d + 8) (0, 0) (0, 0) 84 [some (xr 11 0), some (xi x1), some (xi x2), some (xi x3), some (xi x4), some (xi x5), none] [] h (PoI r) := by
  unfold b_X11_sure_2 at hF
  obtain ⟨hs, hF⟩ := ck_e hF
  refine x_iinc (i := 5) (b := 87) (ls2 := [some (xr 11 0), some (xi x1), some (xi x2), some (xi x3), some (xi x4), some (xi (x5 + 1)), none]) dX11_sure_84 rfl (Nat.le_of_ble_eq_true rfl) hs rfl rfl ?_
  refine x_goto (tgt := 37) dX11_sure_87 (by decide) ?_
  exact x_dp (ls2 := [some (xr 11 0), some (xi x1), some (xi x2), some (xi x3), some (xi x4), some (xi (x5 + 1)), none]) ⟨rfl, rfl, rfl, rfl, rfl, rfl, trivial⟩ (hr_37 x1 x2 x3 x4 (x5 + 1) h hL hF)
set_option maxHeartbeats 4000000 in
set_option maxRecDepth 100000 in
theorem u_X11_sure (E : xE) (d : Nat) (r : Int × Hp) : ∀ n : Nat, (∀ (x1 : Int) (h : Hp), Lay h → g_X11_sure n 0 [x1] h = some r → X E mX11_sure (d + 8) (0, 0) (0, 0) 0 [some (xr 11 0), some (xi x1), none, none, none, none, none] [] h (PoI r)) ∧ (∀ (x1 x2 x3 x4 x5 : Int) (h : Hp), Lay h → g_X11_sure n 1 [x1, x2, x3, x4, x5] h = some r → X E mX11_sure (d + 8) (0, 0) (0, 0) 37 [some (xr 11 0), some (xi x1), some (xi x2), some (xi x3), some (xi x4), some (xi x5), none] [] h (PoI r)) ∧ (∀ (x1 x2 x3 x4 x5 : Int) (h : Hp), Lay h → g_X11_sure n 2 [x1, x2, x3, x4, x5] h = some r → X E mX11_sure (d + 8) (0, 0) (0, 0) 84 [some (xr 11 0), some (xi x1), some (xi x2), some (xi x3), some (xi x4), some (xi x5), none] [] h (PoI r)) := by
  intro n
  induction n with
  | zero => exact ⟨fun _ _ _ hF => no_e (r := r) hF, fun _ _ _ _ _ _ _ hF => no_e (r := r) hF, fun _ _ _ _ _ _ _ hF => no_e (r := r) hF⟩
  | succ n ih => exact ⟨fun x1 h hL hF => t_X11_sure_0 E d (g_X11_sure n) r ih.2.1 x1 h hL hF, fun x1 x2 x3 x4 x5 h hL hF => t_X11_sure_1 E d (g_X11_sure n) r ih.2.2 x1 x2 x3 x4 x5 h hL hF, fun x1 x2 x3 x4 x5 h hL hF => t_X11_sure_2 E d (g_X11_sure n) r ih.2.1 x1 x2 x3 x4 x5 h hL hF⟩
theorem c_X11_sure (d : Nat) (x1 : Int) (h : Hp) (r : Int × Hp) (hL : Lay h) (hF : f_X11_sure x1 h = some r) : Sp mX11_sure (d + 8) (0, 0) [xr 11 0, xi x1] h (PoI r) :=
  sp_of (by decide) rfl (Nat.le_of_ble_eq_true rfl) (ls := [some (xr 11 0), some (xi x1), none, none, none, none, none]) rfl (fun E _ => (u_X11_sure E d r FU).1 x1 h hL hF)
theorem dX11_tried_0 : decode cX11_tried 0 = .ok (.iload_n 1, 1) := by decide +kernel
theorem dX11_tried_1 : decode cX11_tried 1 = .ok (.ifCond .lt 32, 3) := by decide +kernel
theorem dX11_tried_4 : decode cX11_tried 4 = .ok (.iload_n 1, 1) := by decide +kernel
theorem dX11_tried_5 : decode cX11_tried 5 = .ok (.iconst 5, 1) := by decide +kernel
theorem dX11_tried_6 : decode cX11_tried 6 = .ok (.if_icmp .gt 27, 3) := by decide +kernel
theorem dX11_tried_9 : decode cX11_tried 9 = .ok (.iload_n 3, 1) := by decide +kernel
theorem dX11_tried_10 : decode cX11_tried 10 = .ok (.ifCond .lt 23, 3) := by decide +kernel
theorem dX11_tried_13 : decode cX11_tried 13 = .ok (.iload_n 3, 1) := by decide +kernel
theorem dX11_tried_14 : decode cX11_tried 14 = .ok (.bipush 60, 2) := by decide +kernel
theorem dX11_tried_16 : decode cX11_tried 16 = .ok (.if_icmp .gt 17, 3) := by decide +kernel
theorem dX11_tried_19 : decode cX11_tried 19 = .ok (.aload_n 0, 1) := by decide +kernel
theorem dX11_tried_20 : decode cX11_tried 20 = .ok (.getfield 57, 3) := by decide +kernel
theorem dX11_tried_23 : decode cX11_tried 23 = .ok (.getfield 195, 3) := by decide +kernel
theorem dX11_tried_26 : decode cX11_tried 26 = .ok (.iload_n 3, 1) := by decide +kernel
theorem dX11_tried_27 : decode cX11_tried 27 = .ok (.iadd, 1) := by decide +kernel
theorem dX11_tried_28 : decode cX11_tried 28 = .ok (.bipush 60, 2) := by decide +kernel
theorem dX11_tried_30 : decode cX11_tried 30 = .ok (.if_icmp .le 5, 3) := by decide +kernel
theorem dX11_tried_33 : decode cX11_tried 33 = .ok (.iconst (-1), 1) := by decide +kernel
theorem dX11_tried_34 : decode cX11_tried 34 = .ok (.ireturn, 1) := by decide +kernel
theorem dX11_tried_35 : decode cX11_tried 35 = .ok (.iload_n 1, 1) := by decide +kernel
theorem dX11_tried_36 : decode cX11_tried 36 = .ok (.iconst 3, 1) := by decide +kernel
theorem dX11_tried_37 : decode cX11_tried 37 = .ok (.if_icmp .ne 17, 3) := by decide +kernel
theorem dX11_tried_40 : decode cX11_tried 40 = .ok (.aload_n 0, 1) := by decide +kernel
theorem dX11_tried_41 : decode cX11_tried 41 = .ok (.getfield 20, 3) := by decide +kernel
theorem dX11_tried_44 : decode cX11_tried 44 = .ok (.iload_n 2, 1) := by decide +kernel
theorem dX11_tried_45 : decode cX11_tried 45 = .ok (.invokevirtual 135, 3) := by decide +kernel
theorem dX11_tried_48 : decode cX11_tried 48 = .ok (.ifCond .ne 12, 3) := by decide +kernel
theorem dX11_tried_51 : decode cX11_tried 51 = .ok (.goto 7, 3) := by decide +kernel
theorem dX11_tried_54 : decode cX11_tried 54 = .ok (.iload_n 2, 1) := by decide +kernel
theorem dX11_tried_55 : decode cX11_tried 55 = .ok (.ifCond .eq 5, 3) := by decide +kernel
theorem dX11_tried_58 : decode cX11_tried 58 = .ok (.iconst (-1), 1) := by decide +kernel
theorem dX11_tried_59 : decode cX11_tried 59 = .ok (.ireturn, 1) := by decide +kernel
theorem dX11_tried_60 : decode cX11_tried 60 = .ok (.aload_n 0, 1) := by decide +kernel
theorem dX11_tried_61 : decode cX11_tried 61 = .ok (.getfield 92, 3) := by decide +kernel
theorem dX11_tried_64 : decode cX11_tried 64 = .ok (.aload_n 0, 1) := by decide +kernel
theorem dX11_tried_65 : decode cX11_tried 65 = .ok (.getfield 57, 3) := by decide +kernel
theorem dX11_tried_68 : decode cX11_tried 68 = .ok (.invokevirtual 246, 3) := by decide +kernel
theorem dX11_tried_71 : decode cX11_tried 71 = .ok (.aload_n 0, 1) := by decide +kernel
theorem dX11_tried_72 : decode cX11_tried 72 = .ok (.getfield 41, 3) := by decide +kernel
theorem dX11_tried_75 : decode cX11_tried 75 = .ok (.iload_n 1, 1) := by decide +kernel
theorem dX11_tried_76 : decode cX11_tried 76 = .ok (.putfield 333, 3) := by decide +kernel
theorem dX11_tried_79 : decode cX11_tried 79 = .ok (.aload_n 0, 1) := by decide +kernel
theorem dX11_tried_80 : decode cX11_tried 80 = .ok (.getfield 41, 3) := by decide +kernel
theorem dX11_tried_83 : decode cX11_tried 83 = .ok (.iload_n 2, 1) := by decide +kernel
theorem dX11_tried_84 : decode cX11_tried 84 = .ok (.putfield 336, 3) := by decide +kernel
theorem dX11_tried_87 : decode cX11_tried 87 = .ok (.iconst 0, 1) := by decide +kernel
theorem dX11_tried_88 : decode cX11_tried 88 = .ok (.istore 4, 2) := by decide +kernel
theorem dX11_tried_90 : decode cX11_tried 90 = .ok (.iload 4, 2) := by decide +kernel
theorem dX11_tried_92 : decode cX11_tried 92 = .ok (.iload_n 3, 1) := by decide +kernel
theorem dX11_tried_93 : decode cX11_tried 93 = .ok (.if_icmp .ge 28, 3) := by decide +kernel
theorem dX11_tried_96 : decode cX11_tried 96 = .ok (.aload_n 0, 1) := by decide +kernel
theorem dX11_tried_97 : decode cX11_tried 97 = .ok (.getfield 41, 3) := by decide +kernel
theorem dX11_tried_100 : decode cX11_tried 100 = .ok (.aload_n 0, 1) := by decide +kernel
theorem dX11_tried_101 : decode cX11_tried 101 = .ok (.getfield 92, 3) := by decide +kernel
theorem dX11_tried_104 : decode cX11_tried 104 = .ok (.aload_n 0, 1) := by decide +kernel
theorem dX11_tried_105 : decode cX11_tried 105 = .ok (.getfield 92, 3) := by decide +kernel
theorem dX11_tried_108 : decode cX11_tried 108 = .ok (.getfield 161, 3) := by decide +kernel
theorem dX11_tried_111 : decode cX11_tried 111 = .ok (.invokevirtual 254, 3) := by decide +kernel
theorem dX11_tried_114 : decode cX11_tried 114 = .ok (.pop, 1) := by decide +kernel
theorem dX11_tried_115 : decode cX11_tried 115 = .ok (.iinc 4 1, 3) := by decide +kernel
theorem dX11_tried_118 : decode cX11_tried 118 = .ok (.goto (-28), 3) := by decide +kernel
theorem dX11_tried_121 : decode cX11_tried 121 = .ok (.aload_n 0, 1) := by decide +kernel
theorem dX11_tried_122 : decode cX11_tried 122 = .ok (.getfield 41, 3) := by decide +kernel
theorem dX11_tried_125 : decode cX11_tried 125 = .ok (.iconst (-1), 1) := by decide +kernel
theorem dX11_tried_126 : decode cX11_tried 126 = .ok (.putfield 333, 3) := by decide +kernel
theorem dX11_tried_129 : decode cX11_tried 129 = .ok (.aload_n 0, 1) := by decide +kernel
theorem dX11_tried_130 : decode cX11_tried 130 = .ok (.getfield 92, 3) := by decide +kernel
theorem dX11_tried_133 : decode cX11_tried 133 = .ok (.getfield 173, 3) := by decide +kernel
theorem dX11_tried_136 : decode cX11_tried 136 = .ok (.ireturn, 1) := by decide +kernel
noncomputable def b_X11_tried_0 (rec : Rk) (x1 x2 x3 : Int) (h : Hp) : Option (Int × Hp) :=
  if x1 < 0 then (
    some ((-1), h)
  ) else (
    if 5 < x1 then (
      some ((-1), h)
    ) else (
      if x3 < 0 then (
        some ((-1), h)
      ) else (
        if 60 < x3 then (
          some ((-1), h)
        ) else (
          ck (-2147483648 ≤ (gI h 10 0 0) + x3 ∧ (gI h 10 0 0) + x3 < 2147483648) <|
          if ((gI h 10 0 0) + x3) ≤ 60 then (
            if x1 = 3 then (
              rf (gR h 11 0 2) 0 fun j1 =>
              bd (f_X0_isMouth j1 x2 h) fun v2 h3 =>
              if v2 = 0 then (
                some ((-1), h3)
              ) else (
                rec 1 [x1, x2, x3] h3
              )
            ) else (
              if x2 = 0 then (
                rec 1 [x1, x2, x3] h
              ) else (
                some ((-1), h)
              )
            )
          ) else (
            some ((-1), h)
          )
        )
      )
    )
  )
noncomputable def b_X11_tried_1 (rec : Rk) (x1 x2 x3 : Int) (h : Hp) : Option (Int × Hp) :=
  bd (f_X10_copyFrom 22 0 h) fun v1 h2 =>
  lt (sI h2 2 0 1 x1) fun h3 =>
  lt (sI h3 2 0 2 x2) fun h4 =>
  rec 2 [x3, 0] h4
noncomputable def b_X11_tried_2 (rec : Rk) (x3 x4 : Int) (h : Hp) : Option (Int × Hp) :=
  if x3 ≤ x4 then (
    lt (sI h 2 0 1 (-1)) fun h1 =>
    some (gI h1 10 22 1, h1)
  ) else (
    bd (f_X2_hold 22 (gI h 10 22 4) h) fun v2 h3 =>
    ck (-2147483648 ≤ x4 + 1 ∧ x4 + 1 < 2147483648) <|
    rec 2 [x3, x4 + 1] h3
  )
noncomputable def g_X11_tried (n : Nat) : Rk := Nat.rec (motive := fun _ => Rk) (fun _ _ _ => none) (fun _ rec k l h => if k = 0 then b_X11_tried_0 rec (l.getD 0 0) (l.getD 1 0) (l.getD 2 0) h else if k = 1 then b_X11_tried_1 rec (l.getD 0 0) (l.getD 1 0) (l.getD 2 0) h else if k = 2 then b_X11_tried_2 rec (l.getD 0 0) (l.getD 1 0) h else none) n
noncomputable def f_X11_tried (x1 x2 x3 : Int) (h : Hp) : Option (Int × Hp) := g_X11_tried FU 0 [x1, x2, x3] h
set_option maxHeartbeats 4000000 in
set_option maxRecDepth 100000 in
theorem t_X11_tried_0 (E : xE) (d : Nat) (rec : Rk) (r : Int × Hp) (hr_60 : ∀ (x1 x2 x3 : Int) (h : Hp), Lay h → rec 1 [x1, x2, x3] h = some r → X E mX11_tried (d + 7) (0, 0) (0, 0) 60 [some (xr 11 0), some (xi x1), some (xi x2), some (xi x3), none] [] h (PoI r)) (x1 x2 x3 : Int) (h : Hp) (hL : Lay h) (hF : b_X11_tried_0 rec x1 x2 x3 h = some r) : X E mX11_tried (d + 7) (0, 0) (0, 0) 0 [some (xr 11 0), some (xi x1), some (xi x2), some (xi x3), none] [] h (PoI r) := by
  unfold b_X11_tried_0 at hF
  refine x_iload_n (i := 1) (b := 1) dX11_tried_0 rfl rfl rfl ?_
  refine x_if_lt (tgt := 33) (b := 4) dX11_tried_1 (by decide) rfl (fun hc => ?_) (fun hc => ?_)
  · replace hF := br_T hc hF
    refine x_iconst (n := (-1)) (b := 34) dX11_tried_33 (by decide) rfl ?_
    refine x_ireturn dX11_tried_34 rfl ⟨Nat.le_refl _, Nat.le_refl _⟩ ?_
    cases hF
    exact ⟨rfl, rfl, hL⟩
  · replace hF := br_F hc hF
    refine x_iload_n (i := 1) (b := 5) dX11_tried_4 rfl rfl rfl ?_
    refine x_iconst (n := 5) (b := 6) dX11_tried_5 (by decide) rfl ?_
    refine x_icmp_gt (tgt := 33) (b := 9) dX11_tried_6 (by decide) rfl (fun hc => ?_) (fun hc => ?_)
    · replace hF := br_T hc hF
      refine x_iconst (n := (-1)) (b := 34) dX11_tried_33 (by decide) rfl ?_
      refine x_ireturn dX11_tried_34 rfl ⟨Nat.le_refl _, Nat.le_refl _⟩ ?_
      cases hF
      exact ⟨rfl, rfl, hL⟩
    · replace hF := br_F hc hF
      refine x_iload_n (i := 3) (b := 10) dX11_tried_9 rfl rfl rfl ?_
      refine x_if_lt (tgt := 33) (b := 13) dX11_tried_10 (by decide) rfl (fun hc => ?_) (fun hc => ?_)
      · replace hF := br_T hc hF
        refine x_iconst (n := (-1)) (b := 34) dX11_tried_33 (by decide) rfl ?_
        refine x_ireturn dX11_tried_34 rfl ⟨Nat.le_refl _, Nat.le_refl _⟩ ?_
        cases hF
        exact ⟨rfl, rfl, hL⟩
      · replace hF := br_F hc hF
        refine x_iload_n (i := 3) (b := 14) dX11_tried_13 rfl rfl rfl ?_
        refine x_bipush (n := 60) (b := 16) dX11_tried_14 (by decide) rfl ?_
        refine x_icmp_gt (tgt := 33) (b := 19) dX11_tried_16 (by decide) rfl (fun hc => ?_) (fun hc => ?_)
        · replace hF := br_T hc hF
          refine x_iconst (n := (-1)) (b := 34) dX11_tried_33 (by decide) rfl ?_
          refine x_ireturn dX11_tried_34 rfl ⟨Nat.le_refl _, Nat.le_refl _⟩ ?_
          cases hF
          exact ⟨rfl, rfl, hL⟩
        · replace hF := br_F hc hF
          refine x_aload_n (i := 0) (b := 20) dX11_tried_19 rfl rfl rfl ?_
          refine x_getL (j := 0) (t := (10, 0, false)) (b := 23) fk_X11_57 dX11_tried_20 rfl hL rfl rfl rfl ?_
          refine x_getI (v := gI h 10 0 0) (b := 26) fk_X11_195 dX11_tried_23 (by decide) rfl rfl ?_
          refine x_iload_n (i := 3) (b := 27) dX11_tried_26 rfl rfl rfl ?_
          obtain ⟨hs, hF⟩ := ck_e hF
          refine x_iadd (b := 28) dX11_tried_27 hs rfl ?_
          refine x_bipush (n := 60) (b := 30) dX11_tried_28 (by decide) rfl ?_
          refine x_icmp_le (tgt := 35) (b := 33) dX11_tried_30 (by decide) rfl (fun hc => ?_) (fun hc => ?_)
          · replace hF := br_T hc hF
            refine x_iload_n (i := 1) (b := 36) dX11_tried_35 rfl rfl rfl ?_
            refine x_iconst (n := 3) (b := 37) dX11_tried_36 (by decide) rfl ?_
            refine x_icmp_ne (tgt := 54) (b := 40) dX11_tried_37 (by decide) rfl (fun hc => ?_) (fun hc => ?_)
            · replace hF := br_F hc hF
              refine x_iload_n (i := 2) (b := 55) dX11_tried_54 rfl rfl rfl ?_
              refine x_if_eq (tgt := 60) (b := 58) dX11_tried_55 (by decide) rfl (fun hc => ?_) (fun hc => ?_)
              · replace hF := br_T hc hF
                exact x_dp (ls2 := [some (xr 11 0), some (xi x1), some (xi x2), some (xi x3), none]) ⟨rfl, rfl, rfl, rfl, trivial⟩ (hr_60 x1 x2 x3 h hL hF)
              · replace hF := br_F hc hF
                refine x_iconst (n := (-1)) (b := 59) dX11_tried_58 (by decide) rfl ?_
                refine x_ireturn dX11_tried_59 rfl ⟨Nat.le_refl _, Nat.le_refl _⟩ ?_
                cases hF
                exact ⟨rfl, rfl, hL⟩
            · replace hF := br_T hc hF
              refine x_aload_n (i := 0) (b := 41) dX11_tried_40 rfl rfl rfl ?_
              obtain ⟨j1, e_j1, hF⟩ := rf_e hF
              refine x_getR (v := some (0, j1)) (b := 44) fk_X11_20 dX11_tried_41 rfl e_j1 rfl ?_
              refine x_iload_n (i := 2) (b := 45) dX11_tried_44 rfl rfl rfl ?_
              obtain ⟨v2, h3, hq, hF⟩ := bd_e hF
              refine x_callV (as := [xi x2]) (rest := []) (b := 48) (c_X0_isMouth (d + 4) j1 x2 h _ hL hq) dX11_tried_45 cw_X11_135 ⟨_, _, rfl, Nat.le_of_ble_eq_true rfl⟩ rfl rfl (Nat.le_of_ble_eq_true rfl) ⟨Nat.le_refl _, Nat.le_refl _⟩ rfl (fun rv hh hp _ => ?_)
              obtain ⟨rfl, rfl, hL⟩ := hp
              refine x_if_ne (tgt := 60) (b := 51) dX11_tried_48 (by decide) rfl (fun hc => ?_) (fun hc => ?_)
              · replace hF := br_F hc hF
                exact x_dp (ls2 := [some (xr 11 0), some (xi x1), some (xi x2), some (xi x3), none]) ⟨rfl, rfl, rfl, rfl, trivial⟩ (hr_60 x1 x2 x3 h3 hL hF)
              · replace hF := br_T hc hF
                refine x_goto (tgt := 58) dX11_tried_51 (by decide) ?_
                refine x_iconst (n := (-1)) (b := 59) dX11_tried_58 (by decide) rfl ?_
                refine x_ireturn dX11_tried_59 rfl ⟨Nat.le_refl _, Nat.le_refl _⟩ ?_
                cases hF
                exact ⟨rfl, rfl, hL⟩
          · replace hF := br_F hc hF
            refine x_iconst (n := (-1)) (b := 34) dX11_tried_33 (by decide) rfl ?_
            refine x_ireturn dX11_tried_34 rfl ⟨Nat.le_refl _, Nat.le_refl _⟩ ?_
            cases hF
            exact ⟨rfl, rfl, hL⟩
set_option maxHeartbeats 4000000 in
set_option maxRecDepth 100000 in
theorem t_X11_tried_1 (E : xE) (d : Nat) (rec : Rk) (r : Int × Hp) (hr_90 : ∀ (x3 x4 : Int) (h : Hp), Lay h → rec 2 [x3, x4] h = some r → X E mX11_tried (d + 7) (0, 0) (0, 0) 90 [some (xr 11 0), none, none, some (xi x3), some (xi x4)] [] h (PoI r)) (x1 x2 x3 : Int) (h : Hp) (hL : Lay h) (hF : b_X11_tried_1 rec x1 x2 x3 h = some r) : X E mX11_tried (d + 7) (0, 0) (0, 0) 60 [some (xr 11 0), some (xi x1), some (xi x2), some (xi x3), none] [] h (PoI r) := by
  unfold b_X11_tried_1 at hF
  refine x_aload_n (i := 0) (b := 61) dX11_tried_60 rfl rfl rfl ?_
  refine x_getL (j := 22) (t := (10, 22, false)) (b := 64) fk_X11_92 dX11_tried_61 rfl hL rfl rfl rfl ?_
  refine x_aload_n (i := 0) (b := 65) dX11_tried_64 rfl rfl rfl ?_
  refine x_getL (j := 0) (t := (10, 0, false)) (b := 68) fk_X11_57 dX11_tried_65 rfl hL rfl rfl rfl ?_
  obtain ⟨v1, h2, hq, hF⟩ := bd_e hF
  refine x_callV (as := [xr 10 0]) (rest := []) (b := 71) (c_X10_copyFrom (d + 5) 22 0 h _ hL hq) dX11_tried_68 cw_X11_246 ⟨_, _, rfl, Nat.le_of_ble_eq_true rfl⟩ rfl rfl (Nat.le_of_ble_eq_true rfl) ⟨Nat.le_refl _, Nat.le_refl _⟩ rfl (fun rv hh hp _ => ?_)
  obtain ⟨rfl, rfl, hL⟩ := hp
  refine x_aload_n (i := 0) (b := 72) dX11_tried_71 rfl rfl rfl ?_
  refine x_getL (j := 0) (t := (2, 0, false)) (b := 75) fk_X11_41 dX11_tried_72 rfl hL rfl rfl rfl ?_
  refine x_iload_n (i := 1) (b := 76) dX11_tried_75 rfl rfl rfl ?_
  refine x_putI (b := 79) fk_X11_333 dX11_tried_76 rfl rfl 1 rfl ?_
  obtain ⟨h3, e_h3, hF⟩ := lt_e hF
  refine x_hp (h2 := h3) e_h3 ?_
  replace hL : Lay h3 := by rw [← e_h3]; exact hL
  refine x_aload_n (i := 0) (b := 80) dX11_tried_79 rfl rfl rfl ?_
  refine x_getL (j := 0) (t := (2, 0, false)) (b := 83) fk_X11_41 dX11_tried_80 rfl hL rfl rfl rfl ?_
  refine x_iload_n (i := 2) (b := 84) dX11_tried_83 rfl rfl rfl ?_
  refine x_putI (b := 87) fk_X11_336 dX11_tried_84 rfl rfl 2 rfl ?_
  obtain ⟨h4, e_h4, hF⟩ := lt_e hF
  refine x_hp (h2 := h4) e_h4 ?_
  replace hL : Lay h4 := by rw [← e_h4]; exact hL
  refine x_iconst (n := 0) (b := 88) dX11_tried_87 (by decide) rfl ?_
  refine x_istore (i := 4) (b := 90) (ls2 := [some (xr 11 0), some (xi x1), some (xi x2), some (xi x3), some (xi 0)]) dX11_tried_88 (Nat.le_of_ble_eq_true rfl) rfl rfl ?_
  exact x_dp (ls2 := [some (xr 11 0), none, none, some (xi x3), some (xi 0)]) ⟨rfl, rfl, rfl, trivial⟩ (hr_90 x3 0 h4 hL hF)
set_option maxHeartbeats 4000000 in
set_option maxRecDepth 100000 in
theorem t_X11_tried_2 (E : xE) (d : Nat) (rec : Rk) (r : Int × Hp) (hr_90 : ∀ (x3 x4 : Int) (h : Hp), Lay h → rec 2 [x3, x4] h = some r → X E mX11_tried (d + 7) (0, 0) (0, 0) 90 [some (xr 11 0), none, none, some (xi x3), some (xi x4)] [] h (PoI r)) (x3 x4 : Int) (h : Hp) (hL : Lay h) (hF : b_X11_tried_2 rec x3 x4 h = some r) : X E mX11_tried (d + 7) (0, 0) (0, 0) 90 [some (xr 11 0), none, none, some (xi x3), some (xi x4)] [] h (PoI r) := by
  unfold b_X11_tried_2 at hF
  refine x_iload (i := 4) (b := 92) dX11_tried_90 rfl rfl ?_
  refine x_iload_n (i := 3) (b := 93) dX11_tried_92 rfl rfl rfl ?_
  refine x_icmp_ge (tgt := 121) (b := 96) dX11_tried_93 (by decide) rfl (fun hc => ?_) (fun hc => ?_)
  · replace hF := br_T hc hF
    refine x_aload_n (i := 0) (b := 122) dX11_tried_121 rfl rfl rfl ?_
    refine x_getL (j := 0) (t := (2, 0, false)) (b := 125) fk_X11_41 dX11_tried_122 rfl hL rfl rfl rfl ?_
    refine x_iconst (n := (-1)) (b := 126) dX11_tried_125 (by decide) rfl ?_
    refine x_putI (b := 129) fk_X11_333 dX11_tried_126 rfl rfl 1 rfl ?_
    obtain ⟨h1, e_h1, hF⟩ := lt_e hF
    refine x_hp (h2 := h1) e_h1 ?_
    replace hL : Lay h1 := by rw [← e_h1]; exact hL
    refine x_aload_n (i := 0) (b := 130) dX11_tried_129 rfl rfl rfl ?_
    refine x_getL (j := 22) (t := (10, 22, false)) (b := 133) fk_X11_92 dX11_tried_130 rfl hL rfl rfl rfl ?_
    refine x_getI (v := gI h1 10 22 1) (b := 136) fk_X11_173 dX11_tried_133 (by decide) rfl rfl ?_
    refine x_ireturn dX11_tried_136 rfl ⟨Nat.le_refl _, Nat.le_refl _⟩ ?_
    cases hF
    exact ⟨rfl, rfl, hL⟩
  · replace hF := br_F hc hF
    refine x_aload_n (i := 0) (b := 97) dX11_tried_96 rfl rfl rfl ?_
    refine x_getL (j := 0) (t := (2, 0, false)) (b := 100) fk_X11_41 dX11_tried_97 rfl hL rfl rfl rfl ?_
    refine x_aload_n (i := 0) (b := 101) dX11_tried_100 rfl rfl rfl ?_
    refine x_getL (j := 22) (t := (10, 22, false)) (b := 104) fk_X11_92 dX11_tried_101 rfl hL rfl rfl rfl ?_
    refine x_aload_n (i := 0) (b := 105) dX11_tried_104 rfl rfl rfl ?_
    refine x_getL (j := 22) (t := (10, 22, false)) (b := 108) fk_X11_92 dX11_tried_105 rfl hL rfl rfl rfl ?_
    refine x_getI (v := gI h 10 22 4) (b := 111) fk_X11_161 dX11_tried_108 (by decide) rfl rfl ?_
    obtain ⟨v2, h3, hq, hF⟩ := bd_e hF
    refine x_callV (as := [xr 10 22, xi (gI h 10 22 4)]) (rest := []) (b := 114) (c_X2_hold d 22 (gI h 10 22 4) h _ hL hq) dX11_tried_111 cw_X11_254 ⟨_, _, rfl, Nat.le_of_ble_eq_true rfl⟩ rfl rfl (Nat.le_of_ble_eq_true rfl) ⟨Nat.le_refl _, Nat.le_refl _⟩ rfl (fun rv hh hp _ => ?_)
    obtain ⟨rfl, rfl, hL⟩ := hp
    refine x_pop (b := 115) dX11_tried_114 rfl rfl ?_
    obtain ⟨hs, hF⟩ := ck_e hF
    refine x_iinc (i := 4) (b := 118) (ls2 := [some (xr 11 0), none, none, some (xi x3), some (xi (x4 + 1))]) dX11_tried_115 rfl (Nat.le_of_ble_eq_true rfl) hs rfl rfl ?_
    refine x_goto (tgt := 90) dX11_tried_118 (by decide) ?_
    exact x_dp (ls2 := [some (xr 11 0), none, none, some (xi x3), some (xi (x4 + 1))]) ⟨rfl, rfl, rfl, trivial⟩ (hr_90 x3 (x4 + 1) h3 hL hF)
set_option maxHeartbeats 4000000 in
set_option maxRecDepth 100000 in
theorem u_X11_tried (E : xE) (d : Nat) (r : Int × Hp) : ∀ n : Nat, (∀ (x1 x2 x3 : Int) (h : Hp), Lay h → g_X11_tried n 0 [x1, x2, x3] h = some r → X E mX11_tried (d + 7) (0, 0) (0, 0) 0 [some (xr 11 0), some (xi x1), some (xi x2), some (xi x3), none] [] h (PoI r)) ∧ (∀ (x1 x2 x3 : Int) (h : Hp), Lay h → g_X11_tried n 1 [x1, x2, x3] h = some r → X E mX11_tried (d + 7) (0, 0) (0, 0) 60 [some (xr 11 0), some (xi x1), some (xi x2), some (xi x3), none] [] h (PoI r)) ∧ (∀ (x3 x4 : Int) (h : Hp), Lay h → g_X11_tried n 2 [x3, x4] h = some r → X E mX11_tried (d + 7) (0, 0) (0, 0) 90 [some (xr 11 0), none, none, some (xi x3), some (xi x4)] [] h (PoI r)) := by
  intro n
  induction n with
  | zero => exact ⟨fun _ _ _ _ _ hF => no_e (r := r) hF, fun _ _ _ _ _ hF => no_e (r := r) hF, fun _ _ _ _ hF => no_e (r := r) hF⟩
  | succ n ih => exact ⟨fun x1 x2 x3 h hL hF => t_X11_tried_0 E d (g_X11_tried n) r ih.2.1 x1 x2 x3 h hL hF, fun x1 x2 x3 h hL hF => t_X11_tried_1 E d (g_X11_tried n) r ih.2.2 x1 x2 x3 h hL hF, fun x3 x4 h hL hF => t_X11_tried_2 E d (g_X11_tried n) r ih.2.2 x3 x4 h hL hF⟩
theorem c_X11_tried (d : Nat) (x1 x2 x3 : Int) (h : Hp) (r : Int × Hp) (hL : Lay h) (hF : f_X11_tried x1 x2 x3 h = some r) : Sp mX11_tried (d + 7) (0, 0) [xr 11 0, xi x1, xi x2, xi x3] h (PoI r) :=
  sp_of (by decide) rfl (Nat.le_of_ble_eq_true rfl) (ls := [some (xr 11 0), some (xi x1), some (xi x2), some (xi x3), none]) rfl (fun E _ => (u_X11_tried E d r FU).1 x1 x2 x3 h hL hF)
theorem dX12_fits_0 : decode cX12_fits 0 = .ok (.aload_n 0, 1) := by decide +kernel
theorem dX12_fits_1 : decode cX12_fits 1 = .ok (.iconst 0, 1) := by decide +kernel
theorem dX12_fits_2 : decode cX12_fits 2 = .ok (.putfield 194, 3) := by decide +kernel
theorem dX12_fits_5 : decode cX12_fits 5 = .ok (.aload_n 0, 1) := by decide +kernel
theorem dX12_fits_6 : decode cX12_fits 6 = .ok (.invokevirtual 455, 3) := by decide +kernel
theorem dX12_fits_9 : decode cX12_fits 9 = .ok (.aload_n 0, 1) := by decide +kernel
theorem dX12_fits_10 : decode cX12_fits 10 = .ok (.invokevirtual 502, 3) := by decide +kernel
theorem dX12_fits_13 : decode cX12_fits 13 = .ok (.iconst 0, 1) := by decide +kernel
theorem dX12_fits_14 : decode cX12_fits 14 = .ok (.istore_n 1, 1) := by decide +kernel
theorem dX12_fits_15 : decode cX12_fits 15 = .ok (.iconst 0, 1) := by decide +kernel
theorem dX12_fits_16 : decode cX12_fits 16 = .ok (.istore_n 2, 1) := by decide +kernel
theorem dX12_fits_17 : decode cX12_fits 17 = .ok (.iload_n 2, 1) := by decide +kernel
theorem dX12_fits_18 : decode cX12_fits 18 = .ok (.iconst 1, 1) := by decide +kernel
theorem dX12_fits_19 : decode cX12_fits 19 = .ok (.aload_n 0, 1) := by decide +kernel
theorem dX12_fits_20 : decode cX12_fits 20 = .ok (.getfield 13, 3) := by decide +kernel
theorem dX12_fits_23 : decode cX12_fits 23 = .ok (.bipush 13, 2) := by decide +kernel
theorem dX12_fits_25 : decode cX12_fits 25 = .ok (.iaload, 1) := by decide +kernel
theorem dX12_fits_26 : decode cX12_fits 26 = .ok (.ishl, 1) := by decide +kernel
theorem dX12_fits_27 : decode cX12_fits 27 = .ok (.if_icmp .ge 71, 3) := by decide +kernel
theorem dX12_fits_30 : decode cX12_fits 30 = .ok (.aload_n 0, 1) := by decide +kernel
theorem dX12_fits_31 : decode cX12_fits 31 = .ok (.iconst 1, 1) := by decide +kernel
theorem dX12_fits_32 : decode cX12_fits 32 = .ok (.invokevirtual 190, 3) := by decide +kernel
theorem dX12_fits_35 : decode cX12_fits 35 = .ok (.aload_n 0, 1) := by decide +kernel
theorem dX12_fits_36 : decode cX12_fits 36 = .ok (.getfield 105, 3) := by decide +kernel
theorem dX12_fits_39 : decode cX12_fits 39 = .ok (.iconst 1, 1) := by decide +kernel
theorem dX12_fits_40 : decode cX12_fits 40 = .ok (.iload_n 2, 1) := by decide +kernel
theorem dX12_fits_41 : decode cX12_fits 41 = .ok (.iastore, 1) := by decide +kernel
theorem dX12_fits_42 : decode cX12_fits 42 = .ok (.iconst 0, 1) := by decide +kernel
theorem dX12_fits_43 : decode cX12_fits 43 = .ok (.istore_n 3, 1) := by decide +kernel
theorem dX12_fits_44 : decode cX12_fits 44 = .ok (.iload_n 3, 1) := by decide +kernel
theorem dX12_fits_45 : decode cX12_fits 45 = .ok (.aload_n 0, 1) := by decide +kernel
theorem dX12_fits_46 : decode cX12_fits 46 = .ok (.getfield 87, 3) := by decide +kernel
theorem dX12_fits_49 : decode cX12_fits 49 = .ok (.iconst 0, 1) := by decide +kernel
theorem dX12_fits_50 : decode cX12_fits 50 = .ok (.iaload, 1) := by decide +kernel
theorem dX12_fits_51 : decode cX12_fits 51 = .ok (.if_icmp .ge 26, 3) := by decide +kernel
theorem dX12_fits_54 : decode cX12_fits 54 = .ok (.aload_n 0, 1) := by decide +kernel
theorem dX12_fits_55 : decode cX12_fits 55 = .ok (.getfield 102, 3) := by decide +kernel
theorem dX12_fits_58 : decode cX12_fits 58 = .ok (.iconst 1, 1) := by decide +kernel
theorem dX12_fits_59 : decode cX12_fits 59 = .ok (.aload_n 0, 1) := by decide +kernel
theorem dX12_fits_60 : decode cX12_fits 60 = .ok (.getfield 126, 3) := by decide +kernel
theorem dX12_fits_63 : decode cX12_fits 63 = .ok (.iload_n 3, 1) := by decide +kernel
theorem dX12_fits_64 : decode cX12_fits 64 = .ok (.iaload, 1) := by decide +kernel
theorem dX12_fits_65 : decode cX12_fits 65 = .ok (.iastore, 1) := by decide +kernel
theorem dX12_fits_66 : decode cX12_fits 66 = .ok (.aload_n 0, 1) := by decide +kernel
theorem dX12_fits_67 : decode cX12_fits 67 = .ok (.iconst 1, 1) := by decide +kernel
theorem dX12_fits_68 : decode cX12_fits 68 = .ok (.invokevirtual 465, 3) := by decide +kernel
theorem dX12_fits_71 : decode cX12_fits 71 = .ok (.iinc 3 1, 3) := by decide +kernel
theorem dX12_fits_74 : decode cX12_fits 74 = .ok (.goto (-30), 3) := by decide +kernel
theorem dX12_fits_77 : decode cX12_fits 77 = .ok (.aload_n 0, 1) := by decide +kernel
theorem dX12_fits_78 : decode cX12_fits 78 = .ok (.iconst 1, 1) := by decide +kernel
theorem dX12_fits_79 : decode cX12_fits 79 = .ok (.invokevirtual 505, 3) := by decide +kernel
theorem dX12_fits_82 : decode cX12_fits 82 = .ok (.iconst (-1), 1) := by decide +kernel
theorem dX12_fits_83 : decode cX12_fits 83 = .ok (.if_icmp .ne 9, 3) := by decide +kernel
theorem dX12_fits_86 : decode cX12_fits 86 = .ok (.iload_n 1, 1) := by decide +kernel
theorem dX12_fits_87 : decode cX12_fits 87 = .ok (.iconst 1, 1) := by decide +kernel
theorem dX12_fits_88 : decode cX12_fits 88 = .ok (.iload_n 2, 1) := by decide +kernel
theorem dX12_fits_89 : decode cX12_fits 89 = .ok (.ishl, 1) := by decide +kernel
theorem dX12_fits_90 : decode cX12_fits 90 = .ok (.ior, 1) := by decide +kernel
theorem dX12_fits_91 : decode cX12_fits 91 = .ok (.istore_n 1, 1) := by decide +kernel
theorem dX12_fits_92 : decode cX12_fits 92 = .ok (.iinc 2 1, 3) := by decide +kernel
theorem dX12_fits_95 : decode cX12_fits 95 = .ok (.goto (-78), 3) := by decide +kernel
theorem dX12_fits_98 : decode cX12_fits 98 = .ok (.iload_n 1, 1) := by decide +kernel
theorem dX12_fits_99 : decode cX12_fits 99 = .ok (.ireturn, 1) := by decide +kernel
noncomputable def b_X12_fits_0 (rec : Rk) (h : Hp) : Option (Int × Hp) :=
  lt (sI h 12 0 0 0) fun h1 =>
  bd (f_X12_plain h1) fun v2 h3 =>
  bd (f_X12_strikes h3) fun v4 h5 =>
  rec 1 [0, 0] h5
noncomputable def b_X12_fits_1 (rec : Rk) (x1 x2 : Int) (h : Hp) : Option (Int × Hp) :=
  ck (0 ≤ (13 : Int) ∧ (13 : Int) < 30) <|
  if (bshl 1 (gI h 61 0 13)) ≤ x2 then (
    some (x1, h)
  ) else (
    bd (f_X12_begins 1 h) fun v1 h2 =>
    ck (0 ≤ (1 : Int) ∧ (1 : Int) < 23) <|
    lt (sI h2 90 0 1 x2) fun h3 =>
    rec 2 [x1, x2, 0] h3
  )
noncomputable def b_X12_fits_2 (rec : Rk) (x1 x2 x3 : Int) (h : Hp) : Option (Int × Hp) :=
  ck (0 ≤ (0 : Int) ∧ (0 : Int) < 23) <|
  if (gI h 84 0 0) ≤ x3 then (
    bd (f_X12_firstWrong 1 h) fun v1 h2 =>
    if v1 = (-1) then (
      lt (bor x1 (bshl 1 x2)) fun z3 =>
      rec 3 [z3, x2] h2
    ) else (
      rec 3 [x1, x2] h2
    )
  ) else (
    ck (0 ≤ x3 ∧ x3 < 180) <|
    ck (0 ≤ (1 : Int) ∧ (1 : Int) < 23) <|
    lt (sI h 89 0 1 (gI h 97 0 x3)) fun h4 =>
    bd (f_X12_passes 1 h4) fun v5 h6 =>
    ck (-2147483648 ≤ x3 + 1 ∧ x3 + 1 < 2147483648) <|
    rec 2 [x1, x2, x3 + 1] h6
  )
noncomputable def b_X12_fits_3 (rec : Rk) (x1 x2 : Int) (h : Hp) : Option (Int × Hp) :=
  ck (-2147483648 ≤ x2 + 1 ∧ x2 + 1 < 2147483648) <|
  rec 1 [x1, x2 + 1] h
noncomputable def g_X12_fits (n : Nat) : Rk := Nat.rec (motive := fun _ => Rk) (fun _ _ _ => none) (fun _ rec k l h => if k = 0 then b_X12_fits_0 rec  h else if k = 1 then b_X12_fits_1 rec (l.getD 0 0) (l.getD 1 0) h else if k = 2 then b_X12_fits_2 rec (l.getD 0 0) (l.getD 1 0) (l.getD 2 0) h else if k = 3 then b_X12_fits_3 rec (l.getD 0 0) (l.getD 1 0) h else none) n
noncomputable def f_X12_fits (h : Hp) : Option (Int × Hp) := g_X12_fits FU 0 [] h
set_option maxHeartbeats 4000000 in
set_option maxRecDepth 100000 in
theorem t_X12_fits_0 (E : xE) (d : Nat) (rec : Rk) (r : Int × Hp) (hr_17 : ∀ (x1 x2 : Int) (h : Hp), Lay h → rec 1 [x1, x2] h = some r → X E mX12_fits (d + 8) (0, 0) (0, 0) 17 [some (xr 12 0), some (xi x1), some (xi x2), none] [] h (PoI r)) (h : Hp) (hL : Lay h) (hF : b_X12_fits_0 rec  h = some r) : X E mX12_fits (d + 8) (0, 0) (0, 0) 0 [some (xr 12 0), none, none, none] [] h (PoI r) := by
  unfold b_X12_fits_0 at hF
  refine x_aload_n (i := 0) (b := 1) dX12_fits_0 rfl rfl rfl ?_
  refine x_iconst (n := 0) (b := 2) dX12_fits_1 (by decide) rfl ?_
  refine x_putI (b := 5) fk_X12_194 dX12_fits_2 rfl rfl 0 rfl ?_
  obtain ⟨h1, e_h1, hF⟩ := lt_e hF
  refine x_hp (h2 := h1) e_h1 ?_
  replace hL : Lay h1 := by rw [← e_h1]; exact hL
  refine x_aload_n (i := 0) (b := 6) dX12_fits_5 rfl rfl rfl ?_
  obtain ⟨v2, h3, hq, hF⟩ := bd_e hF
  refine x_callV (as := []) (rest := []) (b := 9) (c_X12_plain (d + 6) h1 _ hL hq) dX12_fits_6 cw_X12_455 ⟨_, _, rfl, Nat.le_of_ble_eq_true rfl⟩ rfl rfl (Nat.le_of_ble_eq_true rfl) ⟨Nat.le_refl _, Nat.le_refl _⟩ rfl (fun rv hh hp _ => ?_)
  obtain ⟨rfl, rfl, hL⟩ := hp
  refine x_aload_n (i := 0) (b := 10) dX12_fits_9 rfl rfl rfl ?_
  obtain ⟨v4, h5, hq, hF⟩ := bd_e hF
  refine x_callV (as := []) (rest := []) (b := 13) (c_X12_strikes (d + 5) h3 _ hL hq) dX12_fits_10 cw_X12_502 ⟨_, _, rfl, Nat.le_of_ble_eq_true rfl⟩ rfl rfl (Nat.le_of_ble_eq_true rfl) ⟨Nat.le_refl _, Nat.le_refl _⟩ rfl (fun rv hh hp _ => ?_)
  obtain ⟨rfl, rfl, hL⟩ := hp
  refine x_iconst (n := 0) (b := 14) dX12_fits_13 (by decide) rfl ?_
  refine x_istore_n (i := 1) (b := 15) (ls2 := [some (xr 12 0), some (xi 0), none, none]) dX12_fits_14 rfl (Nat.le_of_ble_eq_true rfl) rfl rfl ?_
  refine x_iconst (n := 0) (b := 16) dX12_fits_15 (by decide) rfl ?_
  refine x_istore_n (i := 2) (b := 17) (ls2 := [some (xr 12 0), some (xi 0), some (xi 0), none]) dX12_fits_16 rfl (Nat.le_of_ble_eq_true rfl) rfl rfl ?_
  exact x_dp (ls2 := [some (xr 12 0), some (xi 0), some (xi 0), none]) ⟨rfl, rfl, rfl, trivial⟩ (hr_17 0 0 h5 hL hF)
set_option maxHeartbeats 4000000 in
set_option maxRecDepth 100000 in
theorem t_X12_fits_1 (E : xE) (d : Nat) (rec : Rk) (r : Int × Hp) (hr_44 : ∀ (x1 x2 x3 : Int) (h : Hp), Lay h → rec 2 [x1, x2, x3] h = some r → X E mX12_fits (d + 8) (0, 0) (0, 0) 44 [some (xr 12 0), some (xi x1), some (xi x2), some (xi x3)] [] h (PoI r)) (x1 x2 : Int) (h : Hp) (hL : Lay h) (hF : b_X12_fits_1 rec x1 x2 h = some r) : X E mX12_fits (d + 8) (0, 0) (0, 0) 17 [some (xr 12 0), some (xi x1), some (xi x2), none] [] h (PoI r) := by
  unfold b_X12_fits_1 at hF
  refine x_iload_n (i := 2) (b := 18) dX12_fits_17 rfl rfl rfl ?_
  refine x_iconst (n := 1) (b := 19) dX12_fits_18 (by decide) rfl ?_
  refine x_aload_n (i := 0) (b := 20) dX12_fits_19 rfl rfl rfl ?_
  refine x_getL (j := 0) (t := (61, 0, true)) (b := 23) fk_X12_13 dX12_fits_20 rfl hL rfl rfl rfl ?_
  refine x_bipush (n := 13) (b := 25) dX12_fits_23 (by decide) rfl ?_
  obtain ⟨hs, hF⟩ := ck_e hF
  refine x_iald (v := gI h 61 0 13) (b := 26) ak_61 dX12_fits_25 hs rfl rfl ?_
  refine x_ishl (b := 27) dX12_fits_26 rfl ?_
  refine x_icmp_ge (tgt := 98) (b := 30) dX12_fits_27 (by decide) rfl (fun hc => ?_) (fun hc => ?_)
  · replace hF := br_T hc hF
    refine x_iload_n (i := 1) (b := 99) dX12_fits_98 rfl rfl rfl ?_
    refine x_ireturn dX12_fits_99 rfl ⟨Nat.le_refl _, Nat.le_refl _⟩ ?_
    cases hF
    exact ⟨rfl, rfl, hL⟩
  · replace hF := br_F hc hF
    refine x_aload_n (i := 0) (b := 31) dX12_fits_30 rfl rfl rfl ?_
    refine x_iconst (n := 1) (b := 32) dX12_fits_31 (by decide) rfl ?_
    obtain ⟨v1, h2, hq, hF⟩ := bd_e hF
    refine x_callV (as := [xi 1]) (rest := []) (b := 35) (c_X12_begins (d + 6) 1 h _ hL hq) dX12_fits_32 cw_X12_190 ⟨_, _, rfl, Nat.le_of_ble_eq_true rfl⟩ rfl rfl (Nat.le_of_ble_eq_true rfl) ⟨Nat.le_refl _, Nat.le_refl _⟩ rfl (fun rv hh hp _ => ?_)
    obtain ⟨rfl, rfl, hL⟩ := hp
    refine x_aload_n (i := 0) (b := 36) dX12_fits_35 rfl rfl rfl ?_
    refine x_getL (j := 0) (t := (90, 0, true)) (b := 39) fk_X12_105 dX12_fits_36 rfl hL rfl rfl rfl ?_
    refine x_iconst (n := 1) (b := 40) dX12_fits_39 (by decide) rfl ?_
    refine x_iload_n (i := 2) (b := 41) dX12_fits_40 rfl rfl rfl ?_
    obtain ⟨hs, hF⟩ := ck_e hF
    have hs1 := hs
    refine x_iast (b := 42) ak_90 dX12_fits_41 hs1 rfl ?_
    obtain ⟨h3, e_h3, hF⟩ := lt_e hF
    refine x_hp (h2 := h3) e_h3 ?_
    replace hL : Lay h3 := by rw [← e_h3]; exact hL
    refine x_iconst (n := 0) (b := 43) dX12_fits_42 (by decide) rfl ?_
    refine x_istore_n (i := 3) (b := 44) (ls2 := [some (xr 12 0), some (xi x1), some (xi x2), some (xi 0)]) dX12_fits_43 rfl (Nat.le_of_ble_eq_true rfl) rfl rfl ?_
    exact x_dp (ls2 := [some (xr 12 0), some (xi x1), some (xi x2), some (xi 0)]) ⟨rfl, rfl, rfl, rfl, trivial⟩ (hr_44 x1 x2 0 h3 hL hF)
set_option maxHeartbeats 4000000 in
set_option maxRecDepth 100000 in
theorem t_X12_fits_2 (E : xE) (d : Nat) (rec : Rk) (r : Int × Hp) (hr_44 : ∀ (x1 x2 x3 : Int) (h : Hp), Lay h → rec 2 [x1, x2, x3] h = some r → X E mX12_fits (d + 8) (0, 0) (0, 0) 44 [some (xr 12 0), some (xi x1), some (xi x2), some (xi x3)] [] h (PoI r)) (hr_92 : ∀ (x1 x2 : Int) (h : Hp), Lay h → rec 3 [x1, x2] h = some r → X E mX12_fits (d + 8) (0, 0) (0, 0) 92 [some (xr 12 0), some (xi x1), some (xi x2), none] [] h (PoI r)) (x1 x2 x3 : Int) (h : Hp) (hL : Lay h) (hF : b_X12_fits_2 rec x1 x2 x3 h = some r) : X E mX12_fits (d + 8) (0, 0) (0, 0) 44 [some (xr 12 0), some (xi x1), some (xi x2), some (xi x3)] [] h (PoI r) := by
  unfold b_X12_fits_2 at hF
  refine x_iload_n (i := 3) (b := 45) dX12_fits_44 rfl rfl rfl ?_
  refine x_aload_n (i := 0) (b := 46) dX12_fits_45 rfl rfl rfl ?_
  refine x_getL (j := 0) (t := (84, 0, true)) (b := 49) fk_X12_87 dX12_fits_46 rfl hL rfl rfl rfl ?_
  refine x_iconst (n := 0) (b := 50) dX12_fits_49 (by decide) rfl ?_
  obtain ⟨hs, hF⟩ := ck_e hF
  refine x_iald (v := gI h 84 0 0) (b := 51) ak_84 dX12_fits_50 hs rfl rfl ?_
  refine x_icmp_ge (tgt := 77) (b := 54) dX12_fits_51 (by decide) rfl (fun hc => ?_) (fun hc => ?_)
  · replace hF := br_T hc hF
    refine x_aload_n (i := 0) (b := 78) dX12_fits_77 rfl rfl rfl ?_
    refine x_iconst (n := 1) (b := 79) dX12_fits_78 (by decide) rfl ?_
    obtain ⟨v1, h2, hq, hF⟩ := bd_e hF
    refine x_callV (as := [xi 1]) (rest := []) (b := 82) (c_X12_firstWrong (d + 5) 1 h _ hL hq) dX12_fits_79 cw_X12_505 ⟨_, _, rfl, Nat.le_of_ble_eq_true rfl⟩ rfl rfl (Nat.le_of_ble_eq_true rfl) ⟨Nat.le_refl _, Nat.le_refl _⟩ rfl (fun rv hh hp _ => ?_)
    obtain ⟨rfl, rfl, hL⟩ := hp
    refine x_iconst (n := (-1)) (b := 83) dX12_fits_82 (by decide) rfl ?_
    refine x_icmp_ne (tgt := 92) (b := 86) dX12_fits_83 (by decide) rfl (fun hc => ?_) (fun hc => ?_)
    · replace hF := br_F hc hF
      exact x_dp (ls2 := [some (xr 12 0), some (xi x1), some (xi x2), none]) ⟨rfl, rfl, rfl, trivial⟩ (hr_92 x1 x2 h2 hL hF)
    · replace hF := br_T hc hF
      refine x_iload_n (i := 1) (b := 87) dX12_fits_86 rfl rfl rfl ?_
      refine x_iconst (n := 1) (b := 88) dX12_fits_87 (by decide) rfl ?_
      refine x_iload_n (i := 2) (b := 89) dX12_fits_88 rfl rfl rfl ?_
      refine x_ishl (b := 90) dX12_fits_89 rfl ?_
      refine x_ior (b := 91) dX12_fits_90 rfl ?_
      obtain ⟨z3, e_z3, hF⟩ := lt_e hF
      refine x_eq (y := z3) e_z3 ?_
      refine x_istore_n (i := 1) (b := 92) (ls2 := [some (xr 12 0), some (xi z3), some (xi x2), some (xi x3)]) dX12_fits_91 rfl (Nat.le_of_ble_eq_true rfl) rfl rfl ?_
      exact x_dp (ls2 := [some (xr 12 0), some (xi z3), some (xi x2), none]) ⟨rfl, rfl, rfl, trivial⟩ (hr_92 z3 x2 h2 hL hF)
  · replace hF := br_F hc hF
    refine x_aload_n (i := 0) (b := 55) dX12_fits_54 rfl rfl rfl ?_
    refine x_getL (j := 0) (t := (89, 0, true)) (b := 58) fk_X12_102 dX12_fits_55 rfl hL rfl rfl rfl ?_
    refine x_iconst (n := 1) (b := 59) dX12_fits_58 (by decide) rfl ?_
    refine x_aload_n (i := 0) (b := 60) dX12_fits_59 rfl rfl rfl ?_
    refine x_getL (j := 0) (t := (97, 0, true)) (b := 63) fk_X12_126 dX12_fits_60 rfl hL rfl rfl rfl ?_
    refine x_iload_n (i := 3) (b := 64) dX12_fits_63 rfl rfl rfl ?_
    obtain ⟨hs, hF⟩ := ck_e hF
    refine x_iald (v := gI h 97 0 x3) (b := 65) ak_97 dX12_fits_64 hs rfl rfl ?_
    obtain ⟨hs, hF⟩ := ck_e hF
    have hs1 := hs
    refine x_iast (b := 66) ak_89 dX12_fits_65 hs1 rfl ?_
    obtain ⟨h4, e_h4, hF⟩ := lt_e hF
    refine x_hp (h2 := h4) e_h4 ?_
    replace hL : Lay h4 := by rw [← e_h4]; exact hL
    refine x_aload_n (i := 0) (b := 67) dX12_fits_66 rfl rfl rfl ?_
    refine x_iconst (n := 1) (b := 68) dX12_fits_67 (by decide) rfl ?_
    obtain ⟨v5, h6, hq, hF⟩ := bd_e hF
    refine x_callV (as := [xi 1]) (rest := []) (b := 71) (c_X12_passes d 1 h4 _ hL hq) dX12_fits_68 cw_X12_465 ⟨_, _, rfl, Nat.le_of_ble_eq_true rfl⟩ rfl rfl (Nat.le_of_ble_eq_true rfl) ⟨Nat.le_refl _, Nat.le_refl _⟩ rfl (fun rv hh hp _ => ?_)
    obtain ⟨rfl, rfl, hL⟩ := hp
    obtain ⟨hs, hF⟩ := ck_e hF
    refine x_iinc (i := 3) (b := 74) (ls2 := [some (xr 12 0), some (xi x1), some (xi x2), some (xi (x3 + 1))]) dX12_fits_71 rfl (Nat.le_of_ble_eq_true rfl) hs rfl rfl ?_
    refine x_goto (tgt := 44) dX12_fits_74 (by decide) ?_
    exact x_dp (ls2 := [some (xr 12 0), some (xi x1), some (xi x2), some (xi (x3 + 1))]) ⟨rfl, rfl, rfl, rfl, trivial⟩ (hr_44 x1 x2 (x3 + 1) h6 hL hF)
set_option maxHeartbeats 4000000 in
set_option maxRecDepth 100000 in
theorem t_X12_fits_3 (E : xE) (d : Nat) (rec : Rk) (r : Int × Hp) (hr_17 : ∀ (x1 x2 : Int) (h : Hp), Lay h → rec 1 [x1, x2] h = some r → X E mX12_fits (d + 8) (0, 0) (0, 0) 17 [some (xr 12 0), some (xi x1), some (xi x2), none] [] h (PoI r)) (x1 x2 : Int) (h : Hp) (hL : Lay h) (hF : b_X12_fits_3 rec x1 x2 h = some r) : X E mX12_fits (d + 8) (0, 0) (0, 0) 92 [some (xr 12 0), some (xi x1), some (xi x2), none] [] h (PoI r) := by
  unfold b_X12_fits_3 at hF
  obtain ⟨hs, hF⟩ := ck_e hF
  refine x_iinc (i := 2) (b := 95) (ls2 := [some (xr 12 0), some (xi x1), some (xi (x2 + 1)), none]) dX12_fits_92 rfl (Nat.le_of_ble_eq_true rfl) hs rfl rfl ?_
  refine x_goto (tgt := 17) dX12_fits_95 (by decide) ?_
  exact x_dp (ls2 := [some (xr 12 0), some (xi x1), some (xi (x2 + 1)), none]) ⟨rfl, rfl, rfl, trivial⟩ (hr_17 x1 (x2 + 1) h hL hF)
set_option maxHeartbeats 4000000 in
set_option maxRecDepth 100000 in
theorem u_X12_fits (E : xE) (d : Nat) (r : Int × Hp) : ∀ n : Nat, (∀ (h : Hp), Lay h → g_X12_fits n 0 [] h = some r → X E mX12_fits (d + 8) (0, 0) (0, 0) 0 [some (xr 12 0), none, none, none] [] h (PoI r)) ∧ (∀ (x1 x2 : Int) (h : Hp), Lay h → g_X12_fits n 1 [x1, x2] h = some r → X E mX12_fits (d + 8) (0, 0) (0, 0) 17 [some (xr 12 0), some (xi x1), some (xi x2), none] [] h (PoI r)) ∧ (∀ (x1 x2 x3 : Int) (h : Hp), Lay h → g_X12_fits n 2 [x1, x2, x3] h = some r → X E mX12_fits (d + 8) (0, 0) (0, 0) 44 [some (xr 12 0), some (xi x1), some (xi x2), some (xi x3)] [] h (PoI r)) ∧ (∀ (x1 x2 : Int) (h : Hp), Lay h → g_X12_fits n 3 [x1, x2] h = some r → X E mX12_fits (d + 8) (0, 0) (0, 0) 92 [some (xr 12 0), some (xi x1), some (xi x2), none] [] h (PoI r)) := by
  intro n
  induction n with
  | zero => exact ⟨fun _ _ hF => no_e (r := r) hF, fun _ _ _ _ hF => no_e (r := r) hF, fun _ _ _ _ _ hF => no_e (r := r) hF, fun _ _ _ _ hF => no_e (r := r) hF⟩
  | succ n ih => exact ⟨fun h hL hF => t_X12_fits_0 E d (g_X12_fits n) r ih.2.1  h hL hF, fun x1 x2 h hL hF => t_X12_fits_1 E d (g_X12_fits n) r ih.2.2.1 x1 x2 h hL hF, fun x1 x2 x3 h hL hF => t_X12_fits_2 E d (g_X12_fits n) r ih.2.2.1 ih.2.2.2 x1 x2 x3 h hL hF, fun x1 x2 h hL hF => t_X12_fits_3 E d (g_X12_fits n) r ih.2.1 x1 x2 h hL hF⟩
theorem c_X12_fits (d : Nat) (h : Hp) (r : Int × Hp) (hL : Lay h) (hF : f_X12_fits  h = some r) : Sp mX12_fits (d + 8) (0, 0) [xr 12 0] h (PoI r) :=
  sp_of (by decide) rfl (Nat.le_of_ble_eq_true rfl) (ls := [some (xr 12 0), none, none, none]) rfl (fun E _ => (u_X12_fits E d r FU).1  h hL hF)
theorem dX12_meals_0 : decode cX12_meals 0 = .ok (.aload_n 0, 1) := by decide +kernel
theorem dX12_meals_1 : decode cX12_meals 1 = .ok (.iconst 0, 1) := by decide +kernel
theorem dX12_meals_2 : decode cX12_meals 2 = .ok (.putfield 194, 3) := by decide +kernel
theorem dX12_meals_5 : decode cX12_meals 5 = .ok (.iload_n 1, 1) := by decide +kernel
theorem dX12_meals_6 : decode cX12_meals 6 = .ok (.ifCond .lt 22, 3) := by decide +kernel
theorem dX12_meals_9 : decode cX12_meals 9 = .ok (.iload_n 1, 1) := by decide +kernel
theorem dX12_meals_10 : decode cX12_meals 10 = .ok (.bipush 60, 2) := by decide +kernel
theorem dX12_meals_12 : decode cX12_meals 12 = .ok (.if_icmp .gt 16, 3) := by decide +kernel
theorem dX12_meals_15 : decode cX12_meals 15 = .ok (.aload_n 0, 1) := by decide +kernel
theorem dX12_meals_16 : decode cX12_meals 16 = .ok (.getfield 87, 3) := by decide +kernel
theorem dX12_meals_19 : decode cX12_meals 19 = .ok (.iconst 0, 1) := by decide +kernel
theorem dX12_meals_20 : decode cX12_meals 20 = .ok (.iaload, 1) := by decide +kernel
theorem dX12_meals_21 : decode cX12_meals 21 = .ok (.iload_n 1, 1) := by decide +kernel
theorem dX12_meals_22 : decode cX12_meals 22 = .ok (.iadd, 1) := by decide +kernel
theorem dX12_meals_23 : decode cX12_meals 23 = .ok (.bipush 60, 2) := by decide +kernel
theorem dX12_meals_25 : decode cX12_meals 25 = .ok (.if_icmp .le 5, 3) := by decide +kernel
theorem dX12_meals_28 : decode cX12_meals 28 = .ok (.iconst (-1), 1) := by decide +kernel
theorem dX12_meals_29 : decode cX12_meals 29 = .ok (.ireturn, 1) := by decide +kernel
theorem dX12_meals_30 : decode cX12_meals 30 = .ok (.aload_n 0, 1) := by decide +kernel
theorem dX12_meals_31 : decode cX12_meals 31 = .ok (.invokevirtual 455, 3) := by decide +kernel
theorem dX12_meals_34 : decode cX12_meals 34 = .ok (.iconst 0, 1) := by decide +kernel
theorem dX12_meals_35 : decode cX12_meals 35 = .ok (.istore_n 2, 1) := by decide +kernel
theorem dX12_meals_36 : decode cX12_meals 36 = .ok (.iload_n 2, 1) := by decide +kernel
theorem dX12_meals_37 : decode cX12_meals 37 = .ok (.iload_n 1, 1) := by decide +kernel
theorem dX12_meals_38 : decode cX12_meals 38 = .ok (.if_icmp .ge 18, 3) := by decide +kernel
theorem dX12_meals_41 : decode cX12_meals 41 = .ok (.aload_n 0, 1) := by decide +kernel
theorem dX12_meals_42 : decode cX12_meals 42 = .ok (.invokevirtual 462, 3) := by decide +kernel
theorem dX12_meals_45 : decode cX12_meals 45 = .ok (.aload_n 0, 1) := by decide +kernel
theorem dX12_meals_46 : decode cX12_meals 46 = .ok (.iconst 0, 1) := by decide +kernel
theorem dX12_meals_47 : decode cX12_meals 47 = .ok (.invokevirtual 465, 3) := by decide +kernel
theorem dX12_meals_50 : decode cX12_meals 50 = .ok (.iinc 2 1, 3) := by decide +kernel
theorem dX12_meals_53 : decode cX12_meals 53 = .ok (.goto (-17), 3) := by decide +kernel
theorem dX12_meals_56 : decode cX12_meals 56 = .ok (.aload_n 0, 1) := by decide +kernel
theorem dX12_meals_57 : decode cX12_meals 57 = .ok (.getfield 87, 3) := by decide +kernel
theorem dX12_meals_60 : decode cX12_meals 60 = .ok (.iconst 0, 1) := by decide +kernel
theorem dX12_meals_61 : decode cX12_meals 61 = .ok (.iaload, 1) := by decide +kernel
theorem dX12_meals_62 : decode cX12_meals 62 = .ok (.ireturn, 1) := by decide +kernel
noncomputable def b_X12_meals_0 (rec : Rk) (x1 : Int) (h : Hp) : Option (Int × Hp) :=
  lt (sI h 12 0 0 0) fun h1 =>
  if x1 < 0 then (
    some ((-1), h1)
  ) else (
    if 60 < x1 then (
      some ((-1), h1)
    ) else (
      ck (0 ≤ (0 : Int) ∧ (0 : Int) < 23) <|
      ck (-2147483648 ≤ (gI h1 84 0 0) + x1 ∧ (gI h1 84 0 0) + x1 < 2147483648) <|
      if ((gI h1 84 0 0) + x1) ≤ 60 then (
        bd (f_X12_plain h1) fun v2 h3 =>
        rec 1 [x1, 0] h3
      ) else (
        some ((-1), h1)
      )
    )
  )
noncomputable def b_X12_meals_1 (rec : Rk) (x1 x2 : Int) (h : Hp) : Option (Int × Hp) :=
  if x1 ≤ x2 then (
    ck (0 ≤ (0 : Int) ∧ (0 : Int) < 23) <|
    some (gI h 84 0 0, h)
  ) else (
    bd (f_X12_keepNow h) fun v1 h2 =>
    bd (f_X12_passes 0 h2) fun v3 h4 =>
    ck (-2147483648 ≤ x2 + 1 ∧ x2 + 1 < 2147483648) <|
    rec 1 [x1, x2 + 1] h4
  )
noncomputable def g_X12_meals (n : Nat) : Rk := Nat.rec (motive := fun _ => Rk) (fun _ _ _ => none) (fun _ rec k l h => if k = 0 then b_X12_meals_0 rec (l.getD 0 0) h else if k = 1 then b_X12_meals_1 rec (l.getD 0 0) (l.getD 1 0) h else none) n
noncomputable def f_X12_meals (x1 : Int) (h : Hp) : Option (Int × Hp) := g_X12_meals FU 0 [x1] h
set_option maxHeartbeats 4000000 in
set_option maxRecDepth 100000 in
theorem t_X12_meals_0 (E : xE) (d : Nat) (rec : Rk) (r : Int × Hp) (hr_36 : ∀ (x1 x2 : Int) (h : Hp), Lay h → rec 1 [x1, x2] h = some r → X E mX12_meals (d + 8) (0, 0) (0, 0) 36 [some (xr 12 0), some (xi x1), some (xi x2)] [] h (PoI r)) (x1 : Int) (h : Hp) (hL : Lay h) (hF : b_X12_meals_0 rec x1 h = some r) : X E mX12_meals (d + 8) (0, 0) (0, 0) 0 [some (xr 12 0), some (xi x1), none] [] h (PoI r) := by
  unfold b_X12_meals_0 at hF
  refine x_aload_n (i := 0) (b := 1) dX12_meals_0 rfl rfl rfl ?_
  refine x_iconst (n := 0) (b := 2) dX12_meals_1 (by decide) rfl ?_
  refine x_putI (b := 5) fk_X12_194 dX12_meals_2 rfl rfl 0 rfl ?_
  obtain ⟨h1, e_h1, hF⟩ := lt_e hF
  refine x_hp (h2 := h1) e_h1 ?_
  replace hL : Lay h1 := by rw [← e_h1]; exact hL
  refine x_iload_n (i := 1) (b := 6) dX12_meals_5 rfl rfl rfl ?_
  refine x_if_lt (tgt := 28) (b := 9) dX12_meals_6 (by decide) rfl (fun hc => ?_) (fun hc => ?_)
  · replace hF := br_T hc hF
    refine x_iconst (n := (-1)) (b := 29) dX12_meals_28 (by decide) rfl ?_
    refine x_ireturn dX12_meals_29 rfl ⟨Nat.le_refl _, Nat.le_refl _⟩ ?_
    cases hF
    exact ⟨rfl, rfl, hL⟩
  · replace hF := br_F hc hF
    refine x_iload_n (i := 1) (b := 10) dX12_meals_9 rfl rfl rfl ?_
    refine x_bipush (n := 60) (b := 12) dX12_meals_10 (by decide) rfl ?_
    refine x_icmp_gt (tgt := 28) (b := 15) dX12_meals_12 (by decide) rfl (fun hc => ?_) (fun hc => ?_)
    · replace hF := br_T hc hF
      refine x_iconst (n := (-1)) (b := 29) dX12_meals_28 (by decide) rfl ?_
      refine x_ireturn dX12_meals_29 rfl ⟨Nat.le_refl _, Nat.le_refl _⟩ ?_
      cases hF
      exact ⟨rfl, rfl, hL⟩
    · replace hF := br_F hc hF
      refine x_aload_n (i := 0) (b := 16) dX12_meals_15 rfl rfl rfl ?_
      refine x_getL (j := 0) (t := (84, 0, true)) (b := 19) fk_X12_87 dX12_meals_16 rfl hL rfl rfl rfl ?_
      refine x_iconst (n := 0) (b := 20) dX12_meals_19 (by decide) rfl ?_
      obtain ⟨hs, hF⟩ := ck_e hF
      refine x_iald (v := gI h1 84 0 0) (b := 21) ak_84 dX12_meals_20 hs rfl rfl ?_
      refine x_iload_n (i := 1) (b := 22) dX12_meals_21 rfl rfl rfl ?_
      obtain ⟨hs, hF⟩ := ck_e hF
      refine x_iadd (b := 23) dX12_meals_22 hs rfl ?_
      refine x_bipush (n := 60) (b := 25) dX12_meals_23 (by decide) rfl ?_
      refine x_icmp_le (tgt := 30) (b := 28) dX12_meals_25 (by decide) rfl (fun hc => ?_) (fun hc => ?_)
      · replace hF := br_T hc hF
        refine x_aload_n (i := 0) (b := 31) dX12_meals_30 rfl rfl rfl ?_
        obtain ⟨v2, h3, hq, hF⟩ := bd_e hF
        refine x_callV (as := []) (rest := []) (b := 34) (c_X12_plain (d + 6) h1 _ hL hq) dX12_meals_31 cw_X12_455 ⟨_, _, rfl, Nat.le_of_ble_eq_true rfl⟩ rfl rfl (Nat.le_of_ble_eq_true rfl) ⟨Nat.le_refl _, Nat.le_refl _⟩ rfl (fun rv hh hp _ => ?_)
        obtain ⟨rfl, rfl, hL⟩ := hp
        refine x_iconst (n := 0) (b := 35) dX12_meals_34 (by decide) rfl ?_
        refine x_istore_n (i := 2) (b := 36) (ls2 := [some (xr 12 0), some (xi x1), some (xi 0)]) dX12_meals_35 rfl (Nat.le_of_ble_eq_true rfl) rfl rfl ?_
        exact x_dp (ls2 := [some (xr 12 0), some (xi x1), some (xi 0)]) ⟨rfl, rfl, rfl, trivial⟩ (hr_36 x1 0 h3 hL hF)
      · replace hF := br_F hc hF
        refine x_iconst (n := (-1)) (b := 29) dX12_meals_28 (by decide) rfl ?_
        refine x_ireturn dX12_meals_29 rfl ⟨Nat.le_refl _, Nat.le_refl _⟩ ?_
        cases hF
        exact ⟨rfl, rfl, hL⟩
set_option maxHeartbeats 4000000 in
set_option maxRecDepth 100000 in
theorem t_X12_meals_1 (E : xE) (d : Nat) (rec : Rk) (r : Int × Hp) (hr_36 : ∀ (x1 x2 : Int) (h : Hp), Lay h → rec 1 [x1, x2] h = some r → X E mX12_meals (d + 8) (0, 0) (0, 0) 36 [some (xr 12 0), some (xi x1), some (xi x2)] [] h (PoI r)) (x1 x2 : Int) (h : Hp) (hL : Lay h) (hF : b_X12_meals_1 rec x1 x2 h = some r) : X E mX12_meals (d + 8) (0, 0) (0, 0) 36 [some (xr 12 0), some (xi x1), some (xi x2)] [] h (PoI r) := by
  unfold b_X12_meals_1 at hF
  refine x_iload_n (i := 2) (b := 37) dX12_meals_36 rfl rfl rfl ?_
  refine x_iload_n (i := 1) (b := 38) dX12_meals_37 rfl rfl rfl ?_
  refine x_icmp_ge (tgt := 56) (b := 41) dX12_meals_38 (by decide) rfl (fun hc => ?_) (fun hc => ?_)
  · replace hF := br_T hc hF
    refine x_aload_n (i := 0) (b := 57) dX12_meals_56 rfl rfl rfl ?_
    refine x_getL (j := 0) (t := (84, 0, true)) (b := 60) fk_X12_87 dX12_meals_57 rfl hL rfl rfl rfl ?_
    refine x_iconst (n := 0) (b := 61) dX12_meals_60 (by decide) rfl ?_
    obtain ⟨hs, hF⟩ := ck_e hF
    refine x_iald (v := gI h 84 0 0) (b := 62) ak_84 dX12_meals_61 hs rfl rfl ?_
    refine x_ireturn dX12_meals_62 rfl ⟨Nat.le_refl _, Nat.le_refl _⟩ ?_
    cases hF
    exact ⟨rfl, rfl, hL⟩
  · replace hF := br_F hc hF
    refine x_aload_n (i := 0) (b := 42) dX12_meals_41 rfl rfl rfl ?_
    obtain ⟨v1, h2, hq, hF⟩ := bd_e hF
    refine x_callV (as := []) (rest := []) (b := 45) (c_X12_keepNow (d + 5) h _ hL hq) dX12_meals_42 cw_X12_462 ⟨_, _, rfl, Nat.le_of_ble_eq_true rfl⟩ rfl rfl (Nat.le_of_ble_eq_true rfl) ⟨Nat.le_refl _, Nat.le_refl _⟩ rfl (fun rv hh hp _ => ?_)
    obtain ⟨rfl, rfl, hL⟩ := hp
    refine x_aload_n (i := 0) (b := 46) dX12_meals_45 rfl rfl rfl ?_
    refine x_iconst (n := 0) (b := 47) dX12_meals_46 (by decide) rfl ?_
    obtain ⟨v3, h4, hq, hF⟩ := bd_e hF
    refine x_callV (as := [xi 0]) (rest := []) (b := 50) (c_X12_passes d 0 h2 _ hL hq) dX12_meals_47 cw_X12_465 ⟨_, _, rfl, Nat.le_of_ble_eq_true rfl⟩ rfl rfl (Nat.le_of_ble_eq_true rfl) ⟨Nat.le_refl _, Nat.le_refl _⟩ rfl (fun rv hh hp _ => ?_)
    obtain ⟨rfl, rfl, hL⟩ := hp
    obtain ⟨hs, hF⟩ := ck_e hF
    refine x_iinc (i := 2) (b := 53) (ls2 := [some (xr 12 0), some (xi x1), some (xi (x2 + 1))]) dX12_meals_50 rfl (Nat.le_of_ble_eq_true rfl) hs rfl rfl ?_
    refine x_goto (tgt := 36) dX12_meals_53 (by decide) ?_
    exact x_dp (ls2 := [some (xr 12 0), some (xi x1), some (xi (x2 + 1))]) ⟨rfl, rfl, rfl, trivial⟩ (hr_36 x1 (x2 + 1) h4 hL hF)
set_option maxHeartbeats 4000000 in
set_option maxRecDepth 100000 in
theorem u_X12_meals (E : xE) (d : Nat) (r : Int × Hp) : ∀ n : Nat, (∀ (x1 : Int) (h : Hp), Lay h → g_X12_meals n 0 [x1] h = some r → X E mX12_meals (d + 8) (0, 0) (0, 0) 0 [some (xr 12 0), some (xi x1), none] [] h (PoI r)) ∧ (∀ (x1 x2 : Int) (h : Hp), Lay h → g_X12_meals n 1 [x1, x2] h = some r → X E mX12_meals (d + 8) (0, 0) (0, 0) 36 [some (xr 12 0), some (xi x1), some (xi x2)] [] h (PoI r)) := by
  intro n
  induction n with
  | zero => exact ⟨fun _ _ _ hF => no_e (r := r) hF, fun _ _ _ _ hF => no_e (r := r) hF⟩
  | succ n ih => exact ⟨fun x1 h hL hF => t_X12_meals_0 E d (g_X12_meals n) r ih.2 x1 h hL hF, fun x1 x2 h hL hF => t_X12_meals_1 E d (g_X12_meals n) r ih.2 x1 x2 h hL hF⟩
theorem c_X12_meals (d : Nat) (x1 : Int) (h : Hp) (r : Int × Hp) (hL : Lay h) (hF : f_X12_meals x1 h = some r) : Sp mX12_meals (d + 8) (0, 0) [xr 12 0, xi x1] h (PoI r) :=
  sp_of (by decide) rfl (Nat.le_of_ble_eq_true rfl) (ls := [some (xr 12 0), some (xi x1), none]) rfl (fun E _ => (u_X12_meals E d r FU).1 x1 h hL hF)
theorem dX12_odds_0 : decode cX12_odds 0 = .ok (.aload_n 0, 1) := by decide +kernel
theorem dX12_odds_1 : decode cX12_odds 1 = .ok (.iconst 0, 1) := by decide +kernel
theorem dX12_odds_2 : decode cX12_odds 2 = .ok (.putfield 194, 3) := by decide +kernel
theorem dX12_odds_5 : decode cX12_odds 5 = .ok (.aload_n 0, 1) := by decide +kernel
theorem dX12_odds_6 : decode cX12_odds 6 = .ok (.iload_n 1, 1) := by decide +kernel
theorem dX12_odds_7 : decode cX12_odds 7 = .ok (.invokevirtual 508, 3) := by decide +kernel
theorem dX12_odds_10 : decode cX12_odds 10 = .ok (.ifCond .eq 12, 3) := by decide +kernel
theorem dX12_odds_13 : decode cX12_odds 13 = .ok (.iload_n 2, 1) := by decide +kernel
theorem dX12_odds_14 : decode cX12_odds 14 = .ok (.ifCond .lt 8, 3) := by decide +kernel
theorem dX12_odds_17 : decode cX12_odds 17 = .ok (.iload_n 2, 1) := by decide +kernel
theorem dX12_odds_18 : decode cX12_odds 18 = .ok (.iconst 1, 1) := by decide +kernel
theorem dX12_odds_19 : decode cX12_odds 19 = .ok (.if_icmp .le 5, 3) := by decide +kernel
theorem dX12_odds_22 : decode cX12_odds 22 = .ok (.iconst (-1), 1) := by decide +kernel
theorem dX12_odds_23 : decode cX12_odds 23 = .ok (.ireturn, 1) := by decide +kernel
theorem dX12_odds_24 : decode cX12_odds 24 = .ok (.aload_n 0, 1) := by decide +kernel
theorem dX12_odds_25 : decode cX12_odds 25 = .ok (.invokevirtual 511, 3) := by decide +kernel
theorem dX12_odds_28 : decode cX12_odds 28 = .ok (.istore_n 3, 1) := by decide +kernel
theorem dX12_odds_29 : decode cX12_odds 29 = .ok (.iconst 0, 1) := by decide +kernel
theorem dX12_odds_30 : decode cX12_odds 30 = .ok (.istore 4, 2) := by decide +kernel
theorem dX12_odds_32 : decode cX12_odds 32 = .ok (.iconst 0, 1) := by decide +kernel
theorem dX12_odds_33 : decode cX12_odds 33 = .ok (.istore 5, 2) := by decide +kernel
theorem dX12_odds_35 : decode cX12_odds 35 = .ok (.iconst 0, 1) := by decide +kernel
theorem dX12_odds_36 : decode cX12_odds 36 = .ok (.istore 6, 2) := by decide +kernel
theorem dX12_odds_38 : decode cX12_odds 38 = .ok (.iload 6, 2) := by decide +kernel
theorem dX12_odds_40 : decode cX12_odds 40 = .ok (.iconst 1, 1) := by decide +kernel
theorem dX12_odds_41 : decode cX12_odds 41 = .ok (.aload_n 0, 1) := by decide +kernel
theorem dX12_odds_42 : decode cX12_odds 42 = .ok (.getfield 13, 3) := by decide +kernel
theorem dX12_odds_45 : decode cX12_odds 45 = .ok (.bipush 13, 2) := by decide +kernel
theorem dX12_odds_47 : decode cX12_odds 47 = .ok (.iaload, 1) := by decide +kernel
theorem dX12_odds_48 : decode cX12_odds 48 = .ok (.ishl, 1) := by decide +kernel
theorem dX12_odds_49 : decode cX12_odds 49 = .ok (.if_icmp .ge 113, 3) := by decide +kernel
theorem dX12_odds_52 : decode cX12_odds 52 = .ok (.iload_n 3, 1) := by decide +kernel
theorem dX12_odds_53 : decode cX12_odds 53 = .ok (.iload 6, 2) := by decide +kernel
theorem dX12_odds_55 : decode cX12_odds 55 = .ok (.ishr, 1) := by decide +kernel
theorem dX12_odds_56 : decode cX12_odds 56 = .ok (.iconst 1, 1) := by decide +kernel
theorem dX12_odds_57 : decode cX12_odds 57 = .ok (.iand, 1) := by decide +kernel
theorem dX12_odds_58 : decode cX12_odds 58 = .ok (.ifCond .ne 6, 3) := by decide +kernel
theorem dX12_odds_61 : decode cX12_odds 61 = .ok (.goto 95, 3) := by decide +kernel
theorem dX12_odds_64 : decode cX12_odds 64 = .ok (.iconst 1, 1) := by decide +kernel
theorem dX12_odds_65 : decode cX12_odds 65 = .ok (.istore 7, 2) := by decide +kernel
theorem dX12_odds_67 : decode cX12_odds 67 = .ok (.iconst 0, 1) := by decide +kernel
theorem dX12_odds_68 : decode cX12_odds 68 = .ok (.istore 8, 2) := by decide +kernel
theorem dX12_odds_70 : decode cX12_odds 70 = .ok (.iload 8, 2) := by decide +kernel
theorem dX12_odds_72 : decode cX12_odds 72 = .ok (.aload_n 0, 1) := by decide +kernel
theorem dX12_odds_73 : decode cX12_odds 73 = .ok (.getfield 13, 3) := by decide +kernel
theorem dX12_odds_76 : decode cX12_odds 76 = .ok (.bipush 13, 2) := by decide +kernel
theorem dX12_odds_78 : decode cX12_odds 78 = .ok (.iaload, 1) := by decide +kernel
theorem dX12_odds_79 : decode cX12_odds 79 = .ok (.if_icmp .ge 49, 3) := by decide +kernel
theorem dX12_odds_82 : decode cX12_odds 82 = .ok (.iload 7, 2) := by decide +kernel
theorem dX12_odds_84 : decode cX12_odds 84 = .ok (.iload 6, 2) := by decide +kernel
theorem dX12_odds_86 : decode cX12_odds 86 = .ok (.iload 8, 2) := by decide +kernel
theorem dX12_odds_88 : decode cX12_odds 88 = .ok (.ishr, 1) := by decide +kernel
theorem dX12_odds_89 : decode cX12_odds 89 = .ok (.iconst 1, 1) := by decide +kernel
theorem dX12_odds_90 : decode cX12_odds 90 = .ok (.iand, 1) := by decide +kernel
theorem dX12_odds_91 : decode cX12_odds 91 = .ok (.iconst 1, 1) := by decide +kernel
theorem dX12_odds_92 : decode cX12_odds 92 = .ok (.if_icmp .ne 15, 3) := by decide +kernel
theorem dX12_odds_95 : decode cX12_odds 95 = .ok (.aload_n 0, 1) := by decide +kernel
theorem dX12_odds_96 : decode cX12_odds 96 = .ok (.getfield 65, 3) := by decide +kernel
theorem dX12_odds_99 : decode cX12_odds 99 = .ok (.iconst 5, 1) := by decide +kernel
theorem dX12_odds_100 : decode cX12_odds 100 = .ok (.iload 8, 2) := by decide +kernel
theorem dX12_odds_102 : decode cX12_odds 102 = .ok (.iadd, 1) := by decide +kernel
theorem dX12_odds_103 : decode cX12_odds 103 = .ok (.iaload, 1) := by decide +kernel
theorem dX12_odds_104 : decode cX12_odds 104 = .ok (.goto 15, 3) := by decide +kernel
theorem dX12_odds_107 : decode cX12_odds 107 = .ok (.bipush 100, 2) := by decide +kernel
theorem dX12_odds_109 : decode cX12_odds 109 = .ok (.aload_n 0, 1) := by decide +kernel
theorem dX12_odds_110 : decode cX12_odds 110 = .ok (.getfield 65, 3) := by decide +kernel
theorem dX12_odds_113 : decode cX12_odds 113 = .ok (.iconst 5, 1) := by decide +kernel
theorem dX12_odds_114 : decode cX12_odds 114 = .ok (.iload 8, 2) := by decide +kernel
theorem dX12_odds_116 : decode cX12_odds 116 = .ok (.iadd, 1) := by decide +kernel
theorem dX12_odds_117 : decode cX12_odds 117 = .ok (.iaload, 1) := by decide +kernel
theorem dX12_odds_118 : decode cX12_odds 118 = .ok (.isub, 1) := by decide +kernel
theorem dX12_odds_119 : decode cX12_odds 119 = .ok (.imul, 1) := by decide +kernel
theorem dX12_odds_120 : decode cX12_odds 120 = .ok (.istore 7, 2) := by decide +kernel
theorem dX12_odds_122 : decode cX12_odds 122 = .ok (.iinc 8 1, 3) := by decide +kernel
theorem dX12_odds_125 : decode cX12_odds 125 = .ok (.goto (-55), 3) := by decide +kernel
theorem dX12_odds_128 : decode cX12_odds 128 = .ok (.iload 4, 2) := by decide +kernel
theorem dX12_odds_130 : decode cX12_odds 130 = .ok (.iload 7, 2) := by decide +kernel
theorem dX12_odds_132 : decode cX12_odds 132 = .ok (.iadd, 1) := by decide +kernel
theorem dX12_odds_133 : decode cX12_odds 133 = .ok (.istore 4, 2) := by decide +kernel
theorem dX12_odds_135 : decode cX12_odds 135 = .ok (.iload 5, 2) := by decide +kernel
theorem dX12_odds_137 : decode cX12_odds 137 = .ok (.iload 6, 2) := by decide +kernel
theorem dX12_odds_139 : decode cX12_odds 139 = .ok (.iload_n 1, 1) := by decide +kernel
theorem dX12_odds_140 : decode cX12_odds 140 = .ok (.ishr, 1) := by decide +kernel
theorem dX12_odds_141 : decode cX12_odds 141 = .ok (.iconst 1, 1) := by decide +kernel
theorem dX12_odds_142 : decode cX12_odds 142 = .ok (.iand, 1) := by decide +kernel
theorem dX12_odds_143 : decode cX12_odds 143 = .ok (.iconst 1, 1) := by decide +kernel
theorem dX12_odds_144 : decode cX12_odds 144 = .ok (.if_icmp .ne 8, 3) := by decide +kernel
theorem dX12_odds_147 : decode cX12_odds 147 = .ok (.iload 7, 2) := by decide +kernel
theorem dX12_odds_149 : decode cX12_odds 149 = .ok (.goto 4, 3) := by decide +kernel
theorem dX12_odds_152 : decode cX12_odds 152 = .ok (.iconst 0, 1) := by decide +kernel
theorem dX12_odds_153 : decode cX12_odds 153 = .ok (.iadd, 1) := by decide +kernel
theorem dX12_odds_154 : decode cX12_odds 154 = .ok (.istore 5, 2) := by decide +kernel
theorem dX12_odds_156 : decode cX12_odds 156 = .ok (.iinc 6 1, 3) := by decide +kernel
theorem dX12_odds_159 : decode cX12_odds 159 = .ok (.goto (-121), 3) := by decide +kernel
theorem dX12_odds_162 : decode cX12_odds 162 = .ok (.iload 4, 2) := by decide +kernel
theorem dX12_odds_164 : decode cX12_odds 164 = .ok (.ifCond .ne 5, 3) := by decide +kernel
theorem dX12_odds_167 : decode cX12_odds 167 = .ok (.iload_n 2, 1) := by decide +kernel
theorem dX12_odds_168 : decode cX12_odds 168 = .ok (.ireturn, 1) := by decide +kernel
theorem dX12_odds_169 : decode cX12_odds 169 = .ok (.iload 5, 2) := by decide +kernel
theorem dX12_odds_171 : decode cX12_odds 171 = .ok (.iload 4, 2) := by decide +kernel
theorem dX12_odds_173 : decode cX12_odds 173 = .ok (.invokestatic 492, 3) := by decide +kernel
theorem dX12_odds_176 : decode cX12_odds 176 = .ok (.istore 6, 2) := by decide +kernel
theorem dX12_odds_178 : decode cX12_odds 178 = .ok (.iload_n 2, 1) := by decide +kernel
theorem dX12_odds_179 : decode cX12_odds 179 = .ok (.ifCond .ne 11, 3) := by decide +kernel
theorem dX12_odds_182 : decode cX12_odds 182 = .ok (.iload 5, 2) := by decide +kernel
theorem dX12_odds_184 : decode cX12_odds 184 = .ok (.iload 6, 2) := by decide +kernel
theorem dX12_odds_186 : decode cX12_odds 186 = .ok (.idiv, 1) := by decide +kernel
theorem dX12_odds_187 : decode cX12_odds 187 = .ok (.goto 8, 3) := by decide +kernel
theorem dX12_odds_190 : decode cX12_odds 190 = .ok (.iload 4, 2) := by decide +kernel
theorem dX12_odds_192 : decode cX12_odds 192 = .ok (.iload 6, 2) := by decide +kernel
theorem dX12_odds_194 : decode cX12_odds 194 = .ok (.idiv, 1) := by decide +kernel
theorem dX12_odds_195 : decode cX12_odds 195 = .ok (.ireturn, 1) := by decide +kernel
noncomputable def b_X12_odds_0 (rec : Rk) (x1 x2 : Int) (h : Hp) : Option (Int × Hp) :=
  lt (sI h 12 0 0 0) fun h1 =>
  bd (f_X12_isMay x1 h1) fun v2 h3 =>
  if v2 = 0 then (
    some ((-1), h3)
  ) else (
    if x2 < 0 then (
      some ((-1), h3)
    ) else (
      if x2 ≤ 1 then (
        bd (f_X12_fits h3) fun v4 h5 =>
        rec 1 [x1, x2, v4, 0, 0, 0] h5
      ) else (
        some ((-1), h3)
      )
    )
  )
noncomputable def b_X12_odds_1 (rec : Rk) (x1 x2 x3 x4 x5 x6 : Int) (h : Hp) : Option (Int × Hp) :=
  ck (0 ≤ (13 : Int) ∧ (13 : Int) < 30) <|
  if (bshl 1 (gI h 61 0 13)) ≤ x6 then (
    if x4 = 0 then (
      some (x2, h)
    ) else (
      bd (f_X12_common x5 x4 h) fun v1 h2 =>
      if x2 = 0 then (
        ck ((0 : Int) ≤ x5 ∧ (0 : Int) < v1) <|
        some (x5 / v1, h2)
      ) else (
        ck ((0 : Int) ≤ x4 ∧ (0 : Int) < v1) <|
        some (x4 / v1, h2)
      )
    )
  ) else (
    if (band (bshr x3 x6) 1) = 0 then (
      rec 5 [x1, x2, x3, x4, x5, x6] h
    ) else (
      rec 2 [x1, x2, x3, x4, x5, x6, 1, 0] h
    )
  )
noncomputable def b_X12_odds_2 (rec : Rk) (x1 x2 x3 x4 x5 x6 x7 x8 : Int) (h : Hp) : Option (Int × Hp) :=
  ck (0 ≤ (13 : Int) ∧ (13 : Int) < 30) <|
  if (gI h 61 0 13) ≤ x8 then (
    ck (-2147483648 ≤ x4 + x7 ∧ x4 + x7 < 2147483648) <|
    lt (x4 + x7) fun z1 =>
    if (band (bshr x6 x1) 1) = 1 then (
      rec 4 [x1, x2, x3, z1, x6, x7, x5] h
    ) else (
      rec 4 [x1, x2, x3, z1, x6, 0, x5] h
    )
  ) else (
    if (band (bshr x6 x8) 1) = 1 then (
      ck (-2147483648 ≤ 5 + x8 ∧ 5 + x8 < 2147483648) <|
      ck (0 ≤ (5 + x8) ∧ (5 + x8) < 18) <|
      rec 3 [x1, x2, x3, x4, x5, x6, x8, gI h 78 0 (5 + x8), x7] h
    ) else (
      ck (-2147483648 ≤ 5 + x8 ∧ 5 + x8 < 2147483648) <|
      ck (0 ≤ (5 + x8) ∧ (5 + x8) < 18) <|
      ck (-2147483648 ≤ 100 - (gI h 78 0 (5 + x8)) ∧ 100 - (gI h 78 0 (5 + x8)) < 2147483648) <|
      rec 3 [x1, x2, x3, x4, x5, x6, x8, 100 - (gI h 78 0 (5 + x8)), x7] h
    )
  )
noncomputable def b_X12_odds_3 (rec : Rk) (x1 x2 x3 x4 x5 x6 x8 y0 y1 : Int) (h : Hp) : Option (Int × Hp) :=
  ck (-2147483648 ≤ y1 * y0 ∧ y1 * y0 < 2147483648) <|
  lt (y1 * y0) fun z1 =>
  ck (-2147483648 ≤ x8 + 1 ∧ x8 + 1 < 2147483648) <|
  rec 2 [x1, x2, x3, x4, x5, x6, z1, x8 + 1] h
noncomputable def b_X12_odds_4 (rec : Rk) (x1 x2 x3 x4 x6 y0 y1 : Int) (h : Hp) : Option (Int × Hp) :=
  ck (-2147483648 ≤ y1 + y0 ∧ y1 + y0 < 2147483648) <|
  lt (y1 + y0) fun z1 =>
  rec 5 [x1, x2, x3, x4, z1, x6] h
noncomputable def b_X12_odds_5 (rec : Rk) (x1 x2 x3 x4 x5 x6 : Int) (h : Hp) : Option (Int × Hp) :=
  ck (-2147483648 ≤ x6 + 1 ∧ x6 + 1 < 2147483648) <|
  rec 1 [x1, x2, x3, x4, x5, x6 + 1] h
noncomputable def g_X12_odds (n : Nat) : Rk := Nat.rec (motive := fun _ => Rk) (fun _ _ _ => none) (fun _ rec k l h => if k = 0 then b_X12_odds_0 rec (l.getD 0 0) (l.getD 1 0) h else if k = 1 then b_X12_odds_1 rec (l.getD 0 0) (l.getD 1 0) (l.getD 2 0) (l.getD 3 0) (l.getD 4 0) (l.getD 5 0) h else if k = 2 then b_X12_odds_2 rec (l.getD 0 0) (l.getD 1 0) (l.getD 2 0) (l.getD 3 0) (l.getD 4 0) (l.getD 5 0) (l.getD 6 0) (l.getD 7 0) h else if k = 3 then b_X12_odds_3 rec (l.getD 0 0) (l.getD 1 0) (l.getD 2 0) (l.getD 3 0) (l.getD 4 0) (l.getD 5 0) (l.getD 6 0) (l.getD 7 0) (l.getD 8 0) h else if k = 4 then b_X12_odds_4 rec (l.getD 0 0) (l.getD 1 0) (l.getD 2 0) (l.getD 3 0) (l.getD 4 0) (l.getD 5 0) (l.getD 6 0) h else if k = 5 then b_X12_odds_5 rec (l.getD 0 0) (l.getD 1 0) (l.getD 2 0) (l.getD 3 0) (l.getD 4 0) (l.getD 5 0) h else none) n
noncomputable def f_X12_odds (x1 x2 : Int) (h : Hp) : Option (Int × Hp) := g_X12_odds FU 0 [x1, x2] h
set_option maxHeartbeats 4000000 in
set_option maxRecDepth 100000 in
theorem t_X12_odds_0 (E : xE) (d : Nat) (rec : Rk) (r : Int × Hp) (hr_38 : ∀ (x1 x2 x3 x4 x5 x6 : Int) (h : Hp), Lay h → rec 1 [x1, x2, x3, x4, x5, x6] h = some r → X E mX12_odds (d + 9) (0, 0) (0, 0) 38 [some (xr 12 0), some (xi x1), some (xi x2), some (xi x3), some (xi x4), some (xi x5), some (xi x6), none, none] [] h (PoI r)) (x1 x2 : Int) (h : Hp) (hL : Lay h) (hF : b_X12_odds_0 rec x1 x2 h = some r) : X E mX12_odds (d + 9) (0, 0) (0, 0) 0 [some (xr 12 0), some (xi x1), some (xi x2), none, none, none, none, none, none] [] h (PoI r) := by
  unfold b_X12_odds_0 at hF
  refine x_aload_n (i := 0) (b := 1) dX12_odds_0 rfl rfl rfl ?_
  refine x_iconst (n := 0) (b := 2) dX12_odds_1 (by decide) rfl ?_
  refine x_putI (b := 5) fk_X12_194 dX12_odds_2 rfl rfl 0 rfl ?_
  obtain ⟨h1, e_h1, hF⟩ := lt_e hF
  refine x_hp (h2 := h1) e_h1 ?_
  replace hL : Lay h1 := by rw [← e_h1]; exact hL
  refine x_aload_n (i := 0) (b := 6) dX12_odds_5 rfl rfl rfl ?_
  refine x_iload_n (i := 1) (b := 7) dX12_odds_6 rfl rfl rfl ?_
  obtain ⟨v2, h3, hq, hF⟩ := bd_e hF
  refine x_callV (as := [xi x1]) (rest := []) (b := 10) (c_X12_isMay (d + 7) x1 h1 _ hL hq) dX12_odds_7 cw_X12_508 ⟨_, _, rfl, Nat.le_of_ble_eq_true rfl⟩ rfl rfl (Nat.le_of_ble_eq_true rfl) ⟨Nat.le_refl _, Nat.le_refl _⟩ rfl (fun rv hh hp _ => ?_)
  obtain ⟨rfl, rfl, hL⟩ := hp
  refine x_if_eq (tgt := 22) (b := 13) dX12_odds_10 (by decide) rfl (fun hc => ?_) (fun hc => ?_)
  · replace hF := br_T hc hF
    refine x_iconst (n := (-1)) (b := 23) dX12_odds_22 (by decide) rfl ?_
    refine x_ireturn dX12_odds_23 rfl ⟨Nat.le_refl _, Nat.le_refl _⟩ ?_
    cases hF
    exact ⟨rfl, rfl, hL⟩
  · replace hF := br_F hc hF
    refine x_iload_n (i := 2) (b := 14) dX12_odds_13 rfl rfl rfl ?_
    refine x_if_lt (tgt := 22) (b := 17) dX12_odds_14 (by decide) rfl (fun hc => ?_) (fun hc => ?_)
    · replace hF := br_T hc hF
      refine x_iconst (n := (-1)) (b := 23) dX12_odds_22 (by decide) rfl ?_
      refine x_ireturn dX12_odds_23 rfl ⟨Nat.le_refl _, Nat.le_refl _⟩ ?_
      cases hF
      exact ⟨rfl, rfl, hL⟩
    · replace hF := br_F hc hF
      refine x_iload_n (i := 2) (b := 18) dX12_odds_17 rfl rfl rfl ?_
      refine x_iconst (n := 1) (b := 19) dX12_odds_18 (by decide) rfl ?_
      refine x_icmp_le (tgt := 24) (b := 22) dX12_odds_19 (by decide) rfl (fun hc => ?_) (fun hc => ?_)
      · replace hF := br_T hc hF
        refine x_aload_n (i := 0) (b := 25) dX12_odds_24 rfl rfl rfl ?_
        obtain ⟨v4, h5, hq, hF⟩ := bd_e hF
        refine x_callV (as := []) (rest := []) (b := 28) (c_X12_fits d h3 _ hL hq) dX12_odds_25 cw_X12_511 ⟨_, _, rfl, Nat.le_of_ble_eq_true rfl⟩ rfl rfl (Nat.le_of_ble_eq_true rfl) ⟨Nat.le_refl _, Nat.le_refl _⟩ rfl (fun rv hh hp _ => ?_)
        obtain ⟨rfl, rfl, hL⟩ := hp
        refine x_istore_n (i := 3) (b := 29) (ls2 := [some (xr 12 0), some (xi x1), some (xi x2), some (xi v4), none, none, none, none, none]) dX12_odds_28 rfl (Nat.le_of_ble_eq_true rfl) rfl rfl ?_
        refine x_iconst (n := 0) (b := 30) dX12_odds_29 (by decide) rfl ?_
        refine x_istore (i := 4) (b := 32) (ls2 := [some (xr 12 0), some (xi x1), some (xi x2), some (xi v4), some (xi 0), none, none, none, none]) dX12_odds_30 (Nat.le_of_ble_eq_true rfl) rfl rfl ?_
        refine x_iconst (n := 0) (b := 33) dX12_odds_32 (by decide) rfl ?_
        refine x_istore (i := 5) (b := 35) (ls2 := [some (xr 12 0), some (xi x1), some (xi x2), some (xi v4), some (xi 0), some (xi 0), none, none, none]) dX12_odds_33 (Nat.le_of_ble_eq_true rfl) rfl rfl ?_
        refine x_iconst (n := 0) (b := 36) dX12_odds_35 (by decide) rfl ?_
        refine x_istore (i := 6) (b := 38) (ls2 := [some (xr 12 0), some (xi x1), some (xi x2), some (xi v4), some (xi 0), some (xi 0), some (xi 0), none, none]) dX12_odds_36 (Nat.le_of_ble_eq_true rfl) rfl rfl ?_
        exact x_dp (ls2 := [some (xr 12 0), some (xi x1), some (xi x2), some (xi v4), some (xi 0), some (xi 0), some (xi 0), none, none]) ⟨rfl, rfl, rfl, rfl, rfl, rfl, rfl, trivial⟩ (hr_38 x1 x2 v4 0 0 0 h5 hL hF)
      · replace hF := br_F hc hF
        refine x_iconst (n := (-1)) (b := 23) dX12_odds_22 (by decide) rfl ?_
        refine x_ireturn dX12_odds_23 rfl ⟨Nat.le_refl _, Nat.le_refl _⟩ ?_
        cases hF
        exact ⟨rfl, rfl, hL⟩
set_option maxHeartbeats 4000000 in
set_option maxRecDepth 100000 in
theorem t_X12_odds_1 (E : xE) (d : Nat) (rec : Rk) (r : Int × Hp) (hr_70 : ∀ (x1 x2 x3 x4 x5 x6 x7 x8 : Int) (h : Hp), Lay h → rec 2 [x1, x2, x3, x4, x5, x6, x7, x8] h = some r → X E mX12_odds (d + 9) (0, 0) (0, 0) 70 [some (xr 12 0), some (xi x1), some (xi x2), some (xi x3), some (xi x4), some (xi x5), some (xi x6), some (xi x7), some (xi x8)] [] h (PoI r)) (hr_156 : ∀ (x1 x2 x3 x4 x5 x6 : Int) (h : Hp), Lay h → rec 5 [x1, x2, x3, x4, x5, x6] h = some r → X E mX12_odds (d + 9) (0, 0) (0, 0) 156 [some (xr 12 0), some (xi x1), some (xi x2), some (xi x3), some (xi x4), some (xi x5), some (xi x6), none, none] [] h (PoI r)) (x1 x2 x3 x4 x5 x6 : Int) (h : Hp) (hL : Lay h) (hF : b_X12_odds_1 rec x1 x2 x3 x4 x5 x6 h = some r) : X E mX12_odds (d + 9) (0, 0) (0, 0) 38 [some (xr 12 0), some (xi x1), some (xi x2), some (xi x3), some (xi x4), some (xi x5), some (xi x6), none, none] [] h (PoI r) := by
  unfold b_X12_odds_1 at hF
  refine x_iload (i := 6) (b := 40) dX12_odds_38 rfl rfl ?_
  refine x_iconst (n := 1) (b := 41) dX12_odds_40 (by decide) rfl ?_
  refine x_aload_n (i := 0) (b := 42) dX12_odds_41 rfl rfl rfl ?_
  refine x_getL (j := 0) (t := (61, 0, true)) (b := 45) fk_X12_13 dX12_odds_42 rfl hL rfl rfl rfl ?_
  refine x_bipush (n := 13) (b := 47) dX12_odds_45 (by decide) rfl ?_
  obtain ⟨hs, hF⟩ := ck_e hF
  refine x_iald (v := gI h 61 0 13) (b := 48) ak_61 dX12_odds_47 hs rfl rfl ?_
  refine x_ishl (b := 49) dX12_odds_48 rfl ?_
  refine x_icmp_ge (tgt := 162) (b := 52) dX12_odds_49 (by decide) rfl (fun hc => ?_) (fun hc => ?_)
  · replace hF := br_T hc hF
    refine x_iload (i := 4) (b := 164) dX12_odds_162 rfl rfl ?_
    refine x_if_ne (tgt := 169) (b := 167) dX12_odds_164 (by decide) rfl (fun hc => ?_) (fun hc => ?_)
    · replace hF := br_F hc hF
      refine x_iload (i := 5) (b := 171) dX12_odds_169 rfl rfl ?_
      refine x_iload (i := 4) (b := 173) dX12_odds_171 rfl rfl ?_
      obtain ⟨v1, h2, hq, hF⟩ := bd_e hF
      refine x_callS (as := [xi x5, xi x4]) (rest := []) (b := 176) (c_X12_common (d + 7) x5 x4 h _ hL hq) dX12_odds_173 cw_X12_492 rfl rfl (Nat.le_of_ble_eq_true rfl) ⟨Nat.le_refl _, Nat.le_refl _⟩ rfl (fun rv hh hp _ => ?_)
      obtain ⟨rfl, rfl, hL⟩ := hp
      refine x_istore (i := 6) (b := 178) (ls2 := [some (xr 12 0), some (xi x1), some (xi x2), some (xi x3), some (xi x4), some (xi x5), some (xi v1), none, none]) dX12_odds_176 (Nat.le_of_ble_eq_true rfl) rfl rfl ?_
      refine x_iload_n (i := 2) (b := 179) dX12_odds_178 rfl rfl rfl ?_
      refine x_if_ne (tgt := 190) (b := 182) dX12_odds_179 (by decide) rfl (fun hc => ?_) (fun hc => ?_)
      · replace hF := br_F hc hF
        refine x_iload (i := 4) (b := 192) dX12_odds_190 rfl rfl ?_
        refine x_iload (i := 6) (b := 194) dX12_odds_192 rfl rfl ?_
        obtain ⟨hs, hF⟩ := ck_e hF
        refine x_idiv (b := 195) dX12_odds_194 hs.1 hs.2 rfl ?_
        refine x_ireturn dX12_odds_195 rfl ⟨Nat.le_refl _, Nat.le_refl _⟩ ?_
        cases hF
        exact ⟨rfl, rfl, hL⟩
      · replace hF := br_T hc hF
        refine x_iload (i := 5) (b := 184) dX12_odds_182 rfl rfl ?_
        refine x_iload (i := 6) (b := 186) dX12_odds_184 rfl rfl ?_
        obtain ⟨hs, hF⟩ := ck_e hF
        refine x_idiv (b := 187) dX12_odds_186 hs.1 hs.2 rfl ?_
        refine x_goto (tgt := 195) dX12_odds_187 (by decide) ?_
        refine x_ireturn dX12_odds_195 rfl ⟨Nat.le_refl _, Nat.le_refl _⟩ ?_
        cases hF
        exact ⟨rfl, rfl, hL⟩
    · replace hF := br_T hc hF
      refine x_iload_n (i := 2) (b := 168) dX12_odds_167 rfl rfl rfl ?_
      refine x_ireturn dX12_odds_168 rfl ⟨Nat.le_refl _, Nat.le_refl _⟩ ?_
      cases hF
      exact ⟨rfl, rfl, hL⟩
  · replace hF := br_F hc hF
    refine x_iload_n (i := 3) (b := 53) dX12_odds_52 rfl rfl rfl ?_
    refine x_iload (i := 6) (b := 55) dX12_odds_53 rfl rfl ?_
    refine x_ishr (b := 56) dX12_odds_55 rfl ?_
    refine x_iconst (n := 1) (b := 57) dX12_odds_56 (by decide) rfl ?_
    refine x_iand (b := 58) dX12_odds_57 rfl ?_
    refine x_if_ne (tgt := 64) (b := 61) dX12_odds_58 (by decide) rfl (fun hc => ?_) (fun hc => ?_)
    · replace hF := br_F hc hF
      refine x_iconst (n := 1) (b := 65) dX12_odds_64 (by decide) rfl ?_
      refine x_istore (i := 7) (b := 67) (ls2 := [some (xr 12 0), some (xi x1), some (xi x2), some (xi x3), some (xi x4), some (xi x5), some (xi x6), some (xi 1), none]) dX12_odds_65 (Nat.le_of_ble_eq_true rfl) rfl rfl ?_
      refine x_iconst (n := 0) (b := 68) dX12_odds_67 (by decide) rfl ?_
      refine x_istore (i := 8) (b := 70) (ls2 := [some (xr 12 0), some (xi x1), some (xi x2), some (xi x3), some (xi x4), some (xi x5), some (xi x6), some (xi 1), some (xi 0)]) dX12_odds_68 (Nat.le_of_ble_eq_true rfl) rfl rfl ?_
      exact x_dp (ls2 := [some (xr 12 0), some (xi x1), some (xi x2), some (xi x3), some (xi x4), some (xi x5), some (xi x6), some (xi 1), some (xi 0)]) ⟨rfl, rfl, rfl, rfl, rfl, rfl, rfl, rfl, rfl, trivial⟩ (hr_70 x1 x2 x3 x4 x5 x6 1 0 h hL hF)
    · replace hF := br_T hc hF
      refine x_goto (tgt := 156) dX12_odds_61 (by decide) ?_
      exact x_dp (ls2 := [some (xr 12 0), some (xi x1), some (xi x2), some (xi x3), some (xi x4), some (xi x5), some (xi x6), none, none]) ⟨rfl, rfl, rfl, rfl, rfl, rfl, rfl, trivial⟩ (hr_156 x1 x2 x3 x4 x5 x6 h hL hF)
set_option maxHeartbeats 4000000 in
set_option maxRecDepth 100000 in
theorem t_X12_odds_2 (E : xE) (d : Nat) (rec : Rk) (r : Int × Hp) (hr_119 : ∀ (x1 x2 x3 x4 x5 x6 x8 y0 y1 : Int) (h : Hp), Lay h → rec 3 [x1, x2, x3, x4, x5, x6, x8, y0, y1] h = some r → X E mX12_odds (d + 9) (0, 0) (0, 0) 119 [some (xr 12 0), some (xi x1), some (xi x2), some (xi x3), some (xi x4), some (xi x5), some (xi x6), none, some (xi x8)] [xi y0, xi y1] h (PoI r)) (hr_153 : ∀ (x1 x2 x3 x4 x6 y0 y1 : Int) (h : Hp), Lay h → rec 4 [x1, x2, x3, x4, x6, y0, y1] h = some r → X E mX12_odds (d + 9) (0, 0) (0, 0) 153 [some (xr 12 0), some (xi x1), some (xi x2), some (xi x3), some (xi x4), none, some (xi x6), none, none] [xi y0, xi y1] h (PoI r)) (x1 x2 x3 x4 x5 x6 x7 x8 : Int) (h : Hp) (hL : Lay h) (hF : b_X12_odds_2 rec x1 x2 x3 x4 x5 x6 x7 x8 h = some r) : X E mX12_odds (d + 9) (0, 0) (0, 0) 70 [some (xr 12 0), some (xi x1), some (xi x2), some (xi x3), some (xi x4), some (xi x5), some (xi x6), some (xi x7), some (xi x8)] [] h (PoI r) := by
  unfold b_X12_odds_2 at hF
  refine x_iload (i := 8) (b := 72) dX12_odds_70 rfl rfl ?_
  refine x_aload_n (i := 0) (b := 73) dX12_odds_72 rfl rfl rfl ?_
  refine x_getL (j := 0) (t := (61, 0, true)) (b := 76) fk_X12_13 dX12_odds_73 rfl hL rfl rfl rfl ?_
  refine x_bipush (n := 13) (b := 78) dX12_odds_76 (by decide) rfl ?_
  obtain ⟨hs, hF⟩ := ck_e hF
  refine x_iald (v := gI h 61 0 13) (b := 79) ak_61 dX12_odds_78 hs rfl rfl ?_
  refine x_icmp_ge (tgt := 128) (b := 82) dX12_odds_79 (by decide) rfl (fun hc => ?_) (fun hc => ?_)
  · replace hF := br_T hc hF
    refine x_iload (i := 4) (b := 130) dX12_odds_128 rfl rfl ?_
    refine x_iload (i := 7) (b := 132) dX12_odds_130 rfl rfl ?_
    obtain ⟨hs, hF⟩ := ck_e hF
    refine x_iadd (b := 133) dX12_odds_132 hs rfl ?_
    obtain ⟨z1, e_z1, hF⟩ := lt_e hF
    refine x_eq (y := z1) e_z1 ?_
    refine x_istore (i := 4) (b := 135) (ls2 := [some (xr 12 0), some (xi x1), some (xi x2), some (xi x3), some (xi z1), some (xi x5), some (xi x6), some (xi x7), some (xi x8)]) dX12_odds_133 (Nat.le_of_ble_eq_true rfl) rfl rfl ?_
    refine x_iload (i := 5) (b := 137) dX12_odds_135 rfl rfl ?_
    refine x_iload (i := 6) (b := 139) dX12_odds_137 rfl rfl ?_
    refine x_iload_n (i := 1) (b := 140) dX12_odds_139 rfl rfl rfl ?_
    refine x_ishr (b := 141) dX12_odds_140 rfl ?_
    refine x_iconst (n := 1) (b := 142) dX12_odds_141 (by decide) rfl ?_
    refine x_iand (b := 143) dX12_odds_142 rfl ?_
    refine x_iconst (n := 1) (b := 144) dX12_odds_143 (by decide) rfl ?_
    refine x_icmp_ne (tgt := 152) (b := 147) dX12_odds_144 (by decide) rfl (fun hc => ?_) (fun hc => ?_)
    · replace hF := br_F hc hF
      refine x_iconst (n := 0) (b := 153) dX12_odds_152 (by decide) rfl ?_
      exact x_dp (ls2 := [some (xr 12 0), some (xi x1), some (xi x2), some (xi x3), some (xi z1), none, some (xi x6), none, none]) ⟨rfl, rfl, rfl, rfl, rfl, rfl, trivial⟩ (hr_153 x1 x2 x3 z1 x6 0 x5 h hL hF)
    · replace hF := br_T hc hF
      refine x_iload (i := 7) (b := 149) dX12_odds_147 rfl rfl ?_
      refine x_goto (tgt := 153) dX12_odds_149 (by decide) ?_
      exact x_dp (ls2 := [some (xr 12 0), some (xi x1), some (xi x2), some (xi x3), some (xi z1), none, some (xi x6), none, none]) ⟨rfl, rfl, rfl, rfl, rfl, rfl, trivial⟩ (hr_153 x1 x2 x3 z1 x6 x7 x5 h hL hF)
  · replace hF := br_F hc hF
    refine x_iload (i := 7) (b := 84) dX12_odds_82 rfl rfl ?_
    refine x_iload (i := 6) (b := 86) dX12_odds_84 rfl rfl ?_
    refine x_iload (i := 8) (b := 88) dX12_odds_86 rfl rfl ?_
    refine x_ishr (b := 89) dX12_odds_88 rfl ?_
    refine x_iconst (n := 1) (b := 90) dX12_odds_89 (by decide) rfl ?_
    refine x_iand (b := 91) dX12_odds_90 rfl ?_
    refine x_iconst (n := 1) (b := 92) dX12_odds_91 (by decide) rfl ?_
    refine x_icmp_ne (tgt := 107) (b := 95) dX12_odds_92 (by decide) rfl (fun hc => ?_) (fun hc => ?_)
    · replace hF := br_F hc hF
      refine x_bipush (n := 100) (b := 109) dX12_odds_107 (by decide) rfl ?_
      refine x_aload_n (i := 0) (b := 110) dX12_odds_109 rfl rfl rfl ?_
      refine x_getL (j := 0) (t := (78, 0, true)) (b := 113) fk_X12_65 dX12_odds_110 rfl hL rfl rfl rfl ?_
      refine x_iconst (n := 5) (b := 114) dX12_odds_113 (by decide) rfl ?_
      refine x_iload (i := 8) (b := 116) dX12_odds_114 rfl rfl ?_
      obtain ⟨hs, hF⟩ := ck_e hF
      refine x_iadd (b := 117) dX12_odds_116 hs rfl ?_
      obtain ⟨hs, hF⟩ := ck_e hF
      refine x_iald (v := gI h 78 0 (5 + x8)) (b := 118) ak_78 dX12_odds_117 hs rfl rfl ?_
      obtain ⟨hs, hF⟩ := ck_e hF
      refine x_isub (b := 119) dX12_odds_118 hs rfl ?_
      exact x_dp (ls2 := [some (xr 12 0), some (xi x1), some (xi x2), some (xi x3), some (xi x4), some (xi x5), some (xi x6), none, some (xi x8)]) ⟨rfl, rfl, rfl, rfl, rfl, rfl, rfl, rfl, trivial⟩ (hr_119 x1 x2 x3 x4 x5 x6 x8 (100 - (gI h 78 0 (5 + x8))) x7 h hL hF)
    · replace hF := br_T hc hF
      refine x_aload_n (i := 0) (b := 96) dX12_odds_95 rfl rfl rfl ?_
      refine x_getL (j := 0) (t := (78, 0, true)) (b := 99) fk_X12_65 dX12_odds_96 rfl hL rfl rfl rfl ?_
      refine x_iconst (n := 5) (b := 100) dX12_odds_99 (by decide) rfl ?_
      refine x_iload (i := 8) (b := 102) dX12_odds_100 rfl rfl ?_
      obtain ⟨hs, hF⟩ := ck_e hF
      refine x_iadd (b := 103) dX12_odds_102 hs rfl ?_
      obtain ⟨hs, hF⟩ := ck_e hF
      refine x_iald (v := gI h 78 0 (5 + x8)) (b := 104) ak_78 dX12_odds_103 hs rfl rfl ?_
      refine x_goto (tgt := 119) dX12_odds_104 (by decide) ?_
      exact x_dp (ls2 := [some (xr 12 0), some (xi x1), some (xi x2), some (xi x3), some (xi x4), some (xi x5), some (xi x6), none, some (xi x8)]) ⟨rfl, rfl, rfl, rfl, rfl, rfl, rfl, rfl, trivial⟩ (hr_119 x1 x2 x3 x4 x5 x6 x8 (gI h 78 0 (5 + x8)) x7 h hL hF)
set_option maxHeartbeats 4000000 in
set_option maxRecDepth 100000 in
theorem t_X12_odds_3 (E : xE) (d : Nat) (rec : Rk) (r : Int × Hp) (hr_70 : ∀ (x1 x2 x3 x4 x5 x6 x7 x8 : Int) (h : Hp), Lay h → rec 2 [x1, x2, x3, x4, x5, x6, x7, x8] h = some r → X E mX12_odds (d + 9) (0, 0) (0, 0) 70 [some (xr 12 0), some (xi x1), some (xi x2), some (xi x3), some (xi x4), some (xi x5), some (xi x6), some (xi x7), some (xi x8)] [] h (PoI r)) (x1 x2 x3 x4 x5 x6 x8 y0 y1 : Int) (h : Hp) (hL : Lay h) (hF : b_X12_odds_3 rec x1 x2 x3 x4 x5 x6 x8 y0 y1 h = some r) : X E mX12_odds (d + 9) (0, 0) (0, 0) 119 [some (xr 12 0), some (xi x1), some (xi x2), some (xi x3), some (xi x4), some (xi x5), some (xi x6), none, some (xi x8)] [xi y0, xi y1] h (PoI r) := by
  unfold b_X12_odds_3 at hF
  obtain ⟨hs, hF⟩ := ck_e hF
  refine x_imul (b := 120) dX12_odds_119 hs rfl ?_
  obtain ⟨z1, e_z1, hF⟩ := lt_e hF
  refine x_eq (y := z1) e_z1 ?_
  refine x_istore (i := 7) (b := 122) (ls2 := [some (xr 12 0), some (xi x1), some (xi x2), some (xi x3), some (xi x4), some (xi x5), some (xi x6), some (xi z1), some (xi x8)]) dX12_odds_120 (Nat.le_of_ble_eq_true rfl) rfl rfl ?_
  obtain ⟨hs, hF⟩ := ck_e hF
  refine x_iinc (i := 8) (b := 125) (ls2 := [some (xr 12 0), some (xi x1), some (xi x2), some (xi x3), some (xi x4), some (xi x5), some (xi x6), some (xi z1), some (xi (x8 + 1))]) dX12_odds_122 rfl (Nat.le_of_ble_eq_true rfl) hs rfl rfl ?_
  refine x_goto (tgt := 70) dX12_odds_125 (by decide) ?_
  exact x_dp (ls2 := [some (xr 12 0), some (xi x1), some (xi x2), some (xi x3), some (xi x4), some (xi x5), some (xi x6), some (xi z1), some (xi (x8 + 1))]) ⟨rfl, rfl, rfl, rfl, rfl, rfl, rfl, rfl, rfl, trivial⟩ (hr_70 x1 x2 x3 x4 x5 x6 z1 (x8 + 1) h hL hF)
set_option maxHeartbeats 4000000 in
set_option maxRecDepth 100000 in
theorem t_X12_odds_4 (E : xE) (d : Nat) (rec : Rk) (r : Int × Hp) (hr_156 : ∀ (x1 x2 x3 x4 x5 x6 : Int) (h : Hp), Lay h → rec 5 [x1, x2, x3, x4, x5, x6] h = some r → X E mX12_odds (d + 9) (0, 0) (0, 0) 156 [some (xr 12 0), some (xi x1), some (xi x2), some (xi x3), some (xi x4), some (xi x5), some (xi x6), none, none] [] h (PoI r)) (x1 x2 x3 x4 x6 y0 y1 : Int) (h : Hp) (hL : Lay h) (hF : b_X12_odds_4 rec x1 x2 x3 x4 x6 y0 y1 h = some r) : X E mX12_odds (d + 9) (0, 0) (0, 0) 153 [some (xr 12 0), some (xi x1), some (xi x2), some (xi x3), some (xi x4), none, some (xi x6), none, none] [xi y0, xi y1] h (PoI r) := by
  unfold b_X12_odds_4 at hF
  obtain ⟨hs, hF⟩ := ck_e hF
  refine x_iadd (b := 154) dX12_odds_153 hs rfl ?_
  obtain ⟨z1, e_z1, hF⟩ := lt_e hF
  refine x_eq (y := z1) e_z1 ?_
  refine x_istore (i := 5) (b := 156) (ls2 := [some (xr 12 0), some (xi x1), some (xi x2), some (xi x3), some (xi x4), some (xi z1), some (xi x6), none, none]) dX12_odds_154 (Nat.le_of_ble_eq_true rfl) rfl rfl ?_
  exact x_dp (ls2 := [some (xr 12 0), some (xi x1), some (xi x2), some (xi x3), some (xi x4), some (xi z1), some (xi x6), none, none]) ⟨rfl, rfl, rfl, rfl, rfl, rfl, rfl, trivial⟩ (hr_156 x1 x2 x3 x4 z1 x6 h hL hF)
set_option maxHeartbeats 4000000 in
set_option maxRecDepth 100000 in
theorem t_X12_odds_5 (E : xE) (d : Nat) (rec : Rk) (r : Int × Hp) (hr_38 : ∀ (x1 x2 x3 x4 x5 x6 : Int) (h : Hp), Lay h → rec 1 [x1, x2, x3, x4, x5, x6] h = some r → X E mX12_odds (d + 9) (0, 0) (0, 0) 38 [some (xr 12 0), some (xi x1), some (xi x2), some (xi x3), some (xi x4), some (xi x5), some (xi x6), none, none] [] h (PoI r)) (x1 x2 x3 x4 x5 x6 : Int) (h : Hp) (hL : Lay h) (hF : b_X12_odds_5 rec x1 x2 x3 x4 x5 x6 h = some r) : X E mX12_odds (d + 9) (0, 0) (0, 0) 156 [some (xr 12 0), some (xi x1), some (xi x2), some (xi x3), some (xi x4), some (xi x5), some (xi x6), none, none] [] h (PoI r) := by
  unfold b_X12_odds_5 at hF
  obtain ⟨hs, hF⟩ := ck_e hF
  refine x_iinc (i := 6) (b := 159) (ls2 := [some (xr 12 0), some (xi x1), some (xi x2), some (xi x3), some (xi x4), some (xi x5), some (xi (x6 + 1)), none, none]) dX12_odds_156 rfl (Nat.le_of_ble_eq_true rfl) hs rfl rfl ?_
  refine x_goto (tgt := 38) dX12_odds_159 (by decide) ?_
  exact x_dp (ls2 := [some (xr 12 0), some (xi x1), some (xi x2), some (xi x3), some (xi x4), some (xi x5), some (xi (x6 + 1)), none, none]) ⟨rfl, rfl, rfl, rfl, rfl, rfl, rfl, trivial⟩ (hr_38 x1 x2 x3 x4 x5 (x6 + 1) h hL hF)
set_option maxHeartbeats 4000000 in
set_option maxRecDepth 100000 in
theorem u_X12_odds (E : xE) (d : Nat) (r : Int × Hp) : ∀ n : Nat, (∀ (x1 x2 : Int) (h : Hp), Lay h → g_X12_odds n 0 [x1, x2] h = some r → X E mX12_odds (d + 9) (0, 0) (0, 0) 0 [some (xr 12 0), some (xi x1), some (xi x2), none, none, none, none, none, none] [] h (PoI r)) ∧ (∀ (x1 x2 x3 x4 x5 x6 : Int) (h : Hp), Lay h → g_X12_odds n 1 [x1, x2, x3, x4, x5, x6] h = some r → X E mX12_odds (d + 9) (0, 0) (0, 0) 38 [some (xr 12 0), some (xi x1), some (xi x2), some (xi x3), some (xi x4), some (xi x5), some (xi x6), none, none] [] h (PoI r)) ∧ (∀ (x1 x2 x3 x4 x5 x6 x7 x8 : Int) (h : Hp), Lay h → g_X12_odds n 2 [x1, x2, x3, x4, x5, x6, x7, x8] h = some r → X E mX12_odds (d + 9) (0, 0) (0, 0) 70 [some (xr 12 0), some (xi x1), some (xi x2), some (xi x3), some (xi x4), some (xi x5), some (xi x6), some (xi x7), some (xi x8)] [] h (PoI r)) ∧ (∀ (x1 x2 x3 x4 x5 x6 x8 y0 y1 : Int) (h : Hp), Lay h → g_X12_odds n 3 [x1, x2, x3, x4, x5, x6, x8, y0, y1] h = some r → X E mX12_odds (d + 9) (0, 0) (0, 0) 119 [some (xr 12 0), some (xi x1), some (xi x2), some (xi x3), some (xi x4), some (xi x5), some (xi x6), none, some (xi x8)] [xi y0, xi y1] h (PoI r)) ∧ (∀ (x1 x2 x3 x4 x6 y0 y1 : Int) (h : Hp), Lay h → g_X12_odds n 4 [x1, x2, x3, x4, x6, y0, y1] h = some r → X E mX12_odds (d + 9) (0, 0) (0, 0) 153 [some (xr 12 0), some (xi x1), some (xi x2), some (xi x3), some (xi x4), none, some (xi x6), none, none] [xi y0, xi y1] h (PoI r)) ∧ (∀ (x1 x2 x3 x4 x5 x6 : Int) (h : Hp), Lay h → g_X12_odds n 5 [x1, x2, x3, x4, x5, x6] h = some r → X E mX12_odds (d + 9) (0, 0) (0, 0) 156 [some (xr 12 0), some (xi x1), some (xi x2), some (xi x3), some (xi x4), some (xi x5), some (xi x6), none, none] [] h (PoI r)) := by
  intro n
  induction n with
  | zero => exact ⟨fun _ _ _ _ hF => no_e (r := r) hF, fun _ _ _ _ _ _ _ _ hF => no_e (r := r) hF, fun _ _ _ _ _ _ _ _ _ _ hF => no_e (r := r) hF, fun _ _ _ _ _ _ _ _ _ _ _ hF => no_e (r := r) hF, fun _ _ _ _ _ _ _ _ _ hF => no_e (r := r) hF, fun _ _ _ _ _ _ _ _ hF => no_e (r := r) hF⟩
  | succ n ih => exact ⟨fun x1 x2 h hL hF => t_X12_odds_0 E d (g_X12_odds n) r ih.2.1 x1 x2 h hL hF, fun x1 x2 x3 x4 x5 x6 h hL hF => t_X12_odds_1 E d (g_X12_odds n) r ih.2.2.1 ih.2.2.2.2.2 x1 x2 x3 x4 x5 x6 h hL hF, fun x1 x2 x3 x4 x5 x6 x7 x8 h hL hF => t_X12_odds_2 E d (g_X12_odds n) r ih.2.2.2.1 ih.2.2.2.2.1 x1 x2 x3 x4 x5 x6 x7 x8 h hL hF, fun x1 x2 x3 x4 x5 x6 x8 y0 y1 h hL hF => t_X12_odds_3 E d (g_X12_odds n) r ih.2.2.1 x1 x2 x3 x4 x5 x6 x8 y0 y1 h hL hF, fun x1 x2 x3 x4 x6 y0 y1 h hL hF => t_X12_odds_4 E d (g_X12_odds n) r ih.2.2.2.2.2 x1 x2 x3 x4 x6 y0 y1 h hL hF, fun x1 x2 x3 x4 x5 x6 h hL hF => t_X12_odds_5 E d (g_X12_odds n) r ih.2.1 x1 x2 x3 x4 x5 x6 h hL hF⟩
theorem c_X12_odds (d : Nat) (x1 x2 : Int) (h : Hp) (r : Int × Hp) (hL : Lay h) (hF : f_X12_odds x1 x2 h = some r) : Sp mX12_odds (d + 9) (0, 0) [xr 12 0, xi x1, xi x2] h (PoI r) :=
  sp_of (by decide) rfl (Nat.le_of_ble_eq_true rfl) (ls := [some (xr 12 0), some (xi x1), some (xi x2), none, none, none, none, none, none]) rfl (fun E _ => (u_X12_odds E d r FU).1 x1 x2 h hL hF)
theorem dX12_plan_0 : decode cX12_plan 0 = .ok (.aload_n 0, 1) := by decide +kernel
theorem dX12_plan_1 : decode cX12_plan 1 = .ok (.iconst 0, 1) := by decide +kernel
theorem dX12_plan_2 : decode cX12_plan 2 = .ok (.putfield 194, 3) := by decide +kernel
theorem dX12_plan_5 : decode cX12_plan 5 = .ok (.iload_n 1, 1) := by decide +kernel
theorem dX12_plan_6 : decode cX12_plan 6 = .ok (.iconst 1, 1) := by decide +kernel
theorem dX12_plan_7 : decode cX12_plan 7 = .ok (.if_icmp .lt 31, 3) := by decide +kernel
theorem dX12_plan_10 : decode cX12_plan 10 = .ok (.iload_n 1, 1) := by decide +kernel
theorem dX12_plan_11 : decode cX12_plan 11 = .ok (.iconst 3, 1) := by decide +kernel
theorem dX12_plan_12 : decode cX12_plan 12 = .ok (.if_icmp .gt 26, 3) := by decide +kernel
theorem dX12_plan_15 : decode cX12_plan 15 = .ok (.iload_n 2, 1) := by decide +kernel
theorem dX12_plan_16 : decode cX12_plan 16 = .ok (.iconst (-1), 1) := by decide +kernel
theorem dX12_plan_17 : decode cX12_plan 17 = .ok (.if_icmp .lt 21, 3) := by decide +kernel
theorem dX12_plan_20 : decode cX12_plan 20 = .ok (.iload_n 2, 1) := by decide +kernel
theorem dX12_plan_21 : decode cX12_plan 21 = .ok (.iconst 2, 1) := by decide +kernel
theorem dX12_plan_22 : decode cX12_plan 22 = .ok (.if_icmp .gt 16, 3) := by decide +kernel
theorem dX12_plan_25 : decode cX12_plan 25 = .ok (.aload_n 0, 1) := by decide +kernel
theorem dX12_plan_26 : decode cX12_plan 26 = .ok (.getfield 87, 3) := by decide +kernel
theorem dX12_plan_29 : decode cX12_plan 29 = .ok (.iconst 0, 1) := by decide +kernel
theorem dX12_plan_30 : decode cX12_plan 30 = .ok (.iaload, 1) := by decide +kernel
theorem dX12_plan_31 : decode cX12_plan 31 = .ok (.iload_n 1, 1) := by decide +kernel
theorem dX12_plan_32 : decode cX12_plan 32 = .ok (.iadd, 1) := by decide +kernel
theorem dX12_plan_33 : decode cX12_plan 33 = .ok (.bipush 60, 2) := by decide +kernel
theorem dX12_plan_35 : decode cX12_plan 35 = .ok (.if_icmp .le 5, 3) := by decide +kernel
theorem dX12_plan_38 : decode cX12_plan 38 = .ok (.iconst (-1), 1) := by decide +kernel
theorem dX12_plan_39 : decode cX12_plan 39 = .ok (.ireturn, 1) := by decide +kernel
theorem dX12_plan_40 : decode cX12_plan 40 = .ok (.aload_n 0, 1) := by decide +kernel
theorem dX12_plan_41 : decode cX12_plan 41 = .ok (.invokevirtual 455, 3) := by decide +kernel
theorem dX12_plan_44 : decode cX12_plan 44 = .ok (.aload_n 0, 1) := by decide +kernel
theorem dX12_plan_45 : decode cX12_plan 45 = .ok (.iconst 1, 1) := by decide +kernel
theorem dX12_plan_46 : decode cX12_plan 46 = .ok (.putfield 383, 3) := by decide +kernel
theorem dX12_plan_49 : decode cX12_plan 49 = .ok (.aload_n 0, 1) := by decide +kernel
theorem dX12_plan_50 : decode cX12_plan 50 = .ok (.iconst 1, 1) := by decide +kernel
theorem dX12_plan_51 : decode cX12_plan 51 = .ok (.iconst 0, 1) := by decide +kernel
theorem dX12_plan_52 : decode cX12_plan 52 = .ok (.invokevirtual 468, 3) := by decide +kernel
theorem dX12_plan_55 : decode cX12_plan 55 = .ok (.aload_n 0, 1) := by decide +kernel
theorem dX12_plan_56 : decode cX12_plan 56 = .ok (.iconst (-1), 1) := by decide +kernel
theorem dX12_plan_57 : decode cX12_plan 57 = .ok (.putfield 471, 3) := by decide +kernel
theorem dX12_plan_60 : decode cX12_plan 60 = .ok (.aload_n 0, 1) := by decide +kernel
theorem dX12_plan_61 : decode cX12_plan 61 = .ok (.iconst 0, 1) := by decide +kernel
theorem dX12_plan_62 : decode cX12_plan 62 = .ok (.iload_n 1, 1) := by decide +kernel
theorem dX12_plan_63 : decode cX12_plan 63 = .ok (.iconst 0, 1) := by decide +kernel
theorem dX12_plan_64 : decode cX12_plan 64 = .ok (.invokevirtual 482, 3) := by decide +kernel
theorem dX12_plan_67 : decode cX12_plan 67 = .ok (.aload_n 0, 1) := by decide +kernel
theorem dX12_plan_68 : decode cX12_plan 68 = .ok (.iconst 0, 1) := by decide +kernel
theorem dX12_plan_69 : decode cX12_plan 69 = .ok (.putfield 383, 3) := by decide +kernel
theorem dX12_plan_72 : decode cX12_plan 72 = .ok (.aload_n 0, 1) := by decide +kernel
theorem dX12_plan_73 : decode cX12_plan 73 = .ok (.getfield 471, 3) := by decide +kernel
theorem dX12_plan_76 : decode cX12_plan 76 = .ok (.iconst (-1), 1) := by decide +kernel
theorem dX12_plan_77 : decode cX12_plan 77 = .ok (.if_icmp .eq 11, 3) := by decide +kernel
theorem dX12_plan_80 : decode cX12_plan 80 = .ok (.iload_n 2, 1) := by decide +kernel
theorem dX12_plan_81 : decode cX12_plan 81 = .ok (.aload_n 0, 1) := by decide +kernel
theorem dX12_plan_82 : decode cX12_plan 82 = .ok (.getfield 474, 3) := by decide +kernel
theorem dX12_plan_85 : decode cX12_plan 85 = .ok (.if_icmp .lt 6, 3) := by decide +kernel
theorem dX12_plan_88 : decode cX12_plan 88 = .ok (.bipush (-2), 2) := by decide +kernel
theorem dX12_plan_90 : decode cX12_plan 90 = .ok (.ireturn, 1) := by decide +kernel
theorem dX12_plan_91 : decode cX12_plan 91 = .ok (.iload_n 2, 1) := by decide +kernel
theorem dX12_plan_92 : decode cX12_plan 92 = .ok (.iconst (-1), 1) := by decide +kernel
theorem dX12_plan_93 : decode cX12_plan 93 = .ok (.if_icmp .ne 10, 3) := by decide +kernel
theorem dX12_plan_96 : decode cX12_plan 96 = .ok (.aload_n 0, 1) := by decide +kernel
theorem dX12_plan_97 : decode cX12_plan 97 = .ok (.getfield 471, 3) := by decide +kernel
theorem dX12_plan_100 : decode cX12_plan 100 = .ok (.goto 9, 3) := by decide +kernel
theorem dX12_plan_103 : decode cX12_plan 103 = .ok (.aload_n 0, 1) := by decide +kernel
theorem dX12_plan_104 : decode cX12_plan 104 = .ok (.getfield 154, 3) := by decide +kernel
theorem dX12_plan_107 : decode cX12_plan 107 = .ok (.iload_n 2, 1) := by decide +kernel
theorem dX12_plan_108 : decode cX12_plan 108 = .ok (.iaload, 1) := by decide +kernel
theorem dX12_plan_109 : decode cX12_plan 109 = .ok (.ireturn, 1) := by decide +kernel
noncomputable def b_X12_plan_0 (rec : Rk) (x1 x2 : Int) (h : Hp) : Option (Int × Hp) :=
  lt (sI h 12 0 0 0) fun h1 =>
  if x1 < 1 then (
    some ((-1), h1)
  ) else (
    if 3 < x1 then (
      some ((-1), h1)
    ) else (
      if x2 < (-1) then (
        some ((-1), h1)
      ) else (
        if 2 < x2 then (
          some ((-1), h1)
        ) else (
          ck (0 ≤ (0 : Int) ∧ (0 : Int) < 23) <|
          ck (-2147483648 ≤ (gI h1 84 0 0) + x1 ∧ (gI h1 84 0 0) + x1 < 2147483648) <|
          if ((gI h1 84 0 0) + x1) ≤ 60 then (
            bd (f_X12_plain h1) fun v2 h3 =>
            lt (sI h3 12 0 57 1) fun h4 =>
            bd (f_X12_copies 1 0 h4) fun v5 h6 =>
            lt (sI h6 12 0 67 (-1)) fun h7 =>
            bd (f_X12_plans 0 x1 0 h7) fun v8 h9 =>
            lt (sI h9 12 0 57 0) fun h10 =>
            if (gI h10 12 0 67) = (-1) then (
              some ((-2), h10)
            ) else (
              if x2 < (gI h10 12 0 68) then (
                if x2 = (-1) then (
                  some (gI h10 12 0 67, h10)
                ) else (
                  ck (0 ≤ x2 ∧ x2 < 3) <|
                  some (gI h10 104 0 x2, h10)
                )
              ) else (
                some ((-2), h10)
              )
            )
          ) else (
            some ((-1), h1)
          )
        )
      )
    )
  )
noncomputable def g_X12_plan (n : Nat) : Rk := Nat.rec (motive := fun _ => Rk) (fun _ _ _ => none) (fun _ rec k l h => if k = 0 then b_X12_plan_0 rec (l.getD 0 0) (l.getD 1 0) h else none) n
noncomputable def f_X12_plan (x1 x2 : Int) (h : Hp) : Option (Int × Hp) := g_X12_plan FU 0 [x1, x2] h
set_option maxHeartbeats 4000000 in
set_option maxRecDepth 100000 in
theorem t_X12_plan_0 (E : xE) (d : Nat) (rec : Rk) (r : Int × Hp) (x1 x2 : Int) (h : Hp) (hL : Lay h) (hF : b_X12_plan_0 rec x1 x2 h = some r) : X E mX12_plan (d + 1008) (0, 0) (0, 0) 0 [some (xr 12 0), some (xi x1), some (xi x2)] [] h (PoI r) := by
  unfold b_X12_plan_0 at hF
  refine x_aload_n (i := 0) (b := 1) dX12_plan_0 rfl rfl rfl ?_
  refine x_iconst (n := 0) (b := 2) dX12_plan_1 (by decide) rfl ?_
  refine x_putI (b := 5) fk_X12_194 dX12_plan_2 rfl rfl 0 rfl ?_
  obtain ⟨h1, e_h1, hF⟩ := lt_e hF
  refine x_hp (h2 := h1) e_h1 ?_
  replace hL : Lay h1 := by rw [← e_h1]; exact hL
  refine x_iload_n (i := 1) (b := 6) dX12_plan_5 rfl rfl rfl ?_
  refine x_iconst (n := 1) (b := 7) dX12_plan_6 (by decide) rfl ?_
  refine x_icmp_lt (tgt := 38) (b := 10) dX12_plan_7 (by decide) rfl (fun hc => ?_) (fun hc => ?_)
  · replace hF := br_T hc hF
    refine x_iconst (n := (-1)) (b := 39) dX12_plan_38 (by decide) rfl ?_
    refine x_ireturn dX12_plan_39 rfl ⟨Nat.le_refl _, Nat.le_refl _⟩ ?_
    cases hF
    exact ⟨rfl, rfl, hL⟩
  · replace hF := br_F hc hF
    refine x_iload_n (i := 1) (b := 11) dX12_plan_10 rfl rfl rfl ?_
    refine x_iconst (n := 3) (b := 12) dX12_plan_11 (by decide) rfl ?_
    refine x_icmp_gt (tgt := 38) (b := 15) dX12_plan_12 (by decide) rfl (fun hc => ?_) (fun hc => ?_)
    · replace hF := br_T hc hF
      refine x_iconst (n := (-1)) (b := 39) dX12_plan_38 (by decide) rfl ?_
      refine x_ireturn dX12_plan_39 rfl ⟨Nat.le_refl _, Nat.le_refl _⟩ ?_
      cases hF
      exact ⟨rfl, rfl, hL⟩
    · replace hF := br_F hc hF
      refine x_iload_n (i := 2) (b := 16) dX12_plan_15 rfl rfl rfl ?_
      refine x_iconst (n := (-1)) (b := 17) dX12_plan_16 (by decide) rfl ?_
      refine x_icmp_lt (tgt := 38) (b := 20) dX12_plan_17 (by decide) rfl (fun hc => ?_) (fun hc => ?_)
      · replace hF := br_T hc hF
        refine x_iconst (n := (-1)) (b := 39) dX12_plan_38 (by decide) rfl ?_
        refine x_ireturn dX12_plan_39 rfl ⟨Nat.le_refl _, Nat.le_refl _⟩ ?_
        cases hF
        exact ⟨rfl, rfl, hL⟩
      · replace hF := br_F hc hF
        refine x_iload_n (i := 2) (b := 21) dX12_plan_20 rfl rfl rfl ?_
        refine x_iconst (n := 2) (b := 22) dX12_plan_21 (by decide) rfl ?_
        refine x_icmp_gt (tgt := 38) (b := 25) dX12_plan_22 (by decide) rfl (fun hc => ?_) (fun hc => ?_)
        · replace hF := br_T hc hF
          refine x_iconst (n := (-1)) (b := 39) dX12_plan_38 (by decide) rfl ?_
          refine x_ireturn dX12_plan_39 rfl ⟨Nat.le_refl _, Nat.le_refl _⟩ ?_
          cases hF
          exact ⟨rfl, rfl, hL⟩
        · replace hF := br_F hc hF
          refine x_aload_n (i := 0) (b := 26) dX12_plan_25 rfl rfl rfl ?_
          refine x_getL (j := 0) (t := (84, 0, true)) (b := 29) fk_X12_87 dX12_plan_26 rfl hL rfl rfl rfl ?_
          refine x_iconst (n := 0) (b := 30) dX12_plan_29 (by decide) rfl ?_
          obtain ⟨hs, hF⟩ := ck_e hF
          refine x_iald (v := gI h1 84 0 0) (b := 31) ak_84 dX12_plan_30 hs rfl rfl ?_
          refine x_iload_n (i := 1) (b := 32) dX12_plan_31 rfl rfl rfl ?_
          obtain ⟨hs, hF⟩ := ck_e hF
          refine x_iadd (b := 33) dX12_plan_32 hs rfl ?_
          refine x_bipush (n := 60) (b := 35) dX12_plan_33 (by decide) rfl ?_
          refine x_icmp_le (tgt := 40) (b := 38) dX12_plan_35 (by decide) rfl (fun hc => ?_) (fun hc => ?_)
          · replace hF := br_T hc hF
            refine x_aload_n (i := 0) (b := 41) dX12_plan_40 rfl rfl rfl ?_
            obtain ⟨v2, h3, hq, hF⟩ := bd_e hF
            refine x_callV (as := []) (rest := []) (b := 44) (c_X12_plain (d + 1006) h1 _ hL hq) dX12_plan_41 cw_X12_455 ⟨_, _, rfl, Nat.le_of_ble_eq_true rfl⟩ rfl rfl (Nat.le_of_ble_eq_true rfl) ⟨Nat.le_refl _, Nat.le_refl _⟩ rfl (fun rv hh hp _ => ?_)
            obtain ⟨rfl, rfl, hL⟩ := hp
            refine x_aload_n (i := 0) (b := 45) dX12_plan_44 rfl rfl rfl ?_
            refine x_iconst (n := 1) (b := 46) dX12_plan_45 (by decide) rfl ?_
            refine x_putZ (b := 49) fk_X12_383 dX12_plan_46 rfl (by decide) rfl 57 rfl ?_
            obtain ⟨h4, e_h4, hF⟩ := lt_e hF
            refine x_hp (h2 := h4) e_h4 ?_
            replace hL : Lay h4 := by rw [← e_h4]; exact hL
            refine x_aload_n (i := 0) (b := 50) dX12_plan_49 rfl rfl rfl ?_
            refine x_iconst (n := 1) (b := 51) dX12_plan_50 (by decide) rfl ?_
            refine x_iconst (n := 0) (b := 52) dX12_plan_51 (by decide) rfl ?_
            obtain ⟨v5, h6, hq, hF⟩ := bd_e hF
            refine x_callV (as := [xi 1, xi 0]) (rest := []) (b := 55) (c_X12_copies (d + 1006) 1 0 h4 _ hL hq) dX12_plan_52 cw_X12_468 ⟨_, _, rfl, Nat.le_of_ble_eq_true rfl⟩ rfl rfl (Nat.le_of_ble_eq_true rfl) ⟨Nat.le_refl _, Nat.le_refl _⟩ rfl (fun rv hh hp _ => ?_)
            obtain ⟨rfl, rfl, hL⟩ := hp
            refine x_aload_n (i := 0) (b := 56) dX12_plan_55 rfl rfl rfl ?_
            refine x_iconst (n := (-1)) (b := 57) dX12_plan_56 (by decide) rfl ?_
            refine x_putI (b := 60) fk_X12_471 dX12_plan_57 rfl rfl 67 rfl ?_
            obtain ⟨h7, e_h7, hF⟩ := lt_e hF
            refine x_hp (h2 := h7) e_h7 ?_
            replace hL : Lay h7 := by rw [← e_h7]; exact hL
            refine x_aload_n (i := 0) (b := 61) dX12_plan_60 rfl rfl rfl ?_
            refine x_iconst (n := 0) (b := 62) dX12_plan_61 (by decide) rfl ?_
            refine x_iload_n (i := 1) (b := 63) dX12_plan_62 rfl rfl rfl ?_
            refine x_iconst (n := 0) (b := 64) dX12_plan_63 (by decide) rfl ?_
            obtain ⟨v8, h9, hq, hF⟩ := bd_e hF
            refine x_callV (as := [xi 0, xi x1, xi 0]) (rest := []) (b := 67) (c_X12_plans d 0 x1 0 h7 _ hL hq) dX12_plan_64 cw_X12_482 ⟨_, _, rfl, Nat.le_of_ble_eq_true rfl⟩ rfl rfl (Nat.le_of_ble_eq_true rfl) ⟨Nat.le_refl _, Nat.le_refl _⟩ rfl (fun rv hh hp _ => ?_)
            obtain ⟨rfl, rfl, hL⟩ := hp
            refine x_aload_n (i := 0) (b := 68) dX12_plan_67 rfl rfl rfl ?_
            refine x_iconst (n := 0) (b := 69) dX12_plan_68 (by decide) rfl ?_
            refine x_putZ (b := 72) fk_X12_383 dX12_plan_69 rfl (by decide) rfl 57 rfl ?_
            obtain ⟨h10, e_h10, hF⟩ := lt_e hF
            refine x_hp (h2 := h10) e_h10 ?_
            replace hL : Lay h10 := by rw [← e_h10]; exact hL
            refine x_aload_n (i := 0) (b := 73) dX12_plan_72 rfl rfl rfl ?_
            refine x_getI (v := gI h10 12 0 67) (b := 76) fk_X12_471 dX12_plan_73 (by decide) rfl rfl ?_
            refine x_iconst (n := (-1)) (b := 77) dX12_plan_76 (by decide) rfl ?_
            refine x_icmp_eq (tgt := 88) (b := 80) dX12_plan_77 (by decide) rfl (fun hc => ?_) (fun hc => ?_)
            · replace hF := br_T hc hF
              refine x_bipush (n := (-2)) (b := 90) dX12_plan_88 (by decide) rfl ?_
              refine x_ireturn dX12_plan_90 rfl ⟨Nat.le_refl _, Nat.le_refl _⟩ ?_
              cases hF
              exact ⟨rfl, rfl, hL⟩
            · replace hF := br_F hc hF
              refine x_iload_n (i := 2) (b := 81) dX12_plan_80 rfl rfl rfl ?_
              refine x_aload_n (i := 0) (b := 82) dX12_plan_81 rfl rfl rfl ?_
              refine x_getI (v := gI h10 12 0 68) (b := 85) fk_X12_474 dX12_plan_82 (by decide) rfl rfl ?_
              refine x_icmp_lt (tgt := 91) (b := 88) dX12_plan_85 (by decide) rfl (fun hc => ?_) (fun hc => ?_)
              · replace hF := br_T hc hF
                refine x_iload_n (i := 2) (b := 92) dX12_plan_91 rfl rfl rfl ?_
                refine x_iconst (n := (-1)) (b := 93) dX12_plan_92 (by decide) rfl ?_
                refine x_icmp_ne (tgt := 103) (b := 96) dX12_plan_93 (by decide) rfl (fun hc => ?_) (fun hc => ?_)
                · replace hF := br_F hc hF
                  refine x_aload_n (i := 0) (b := 104) dX12_plan_103 rfl rfl rfl ?_
                  refine x_getL (j := 0) (t := (104, 0, true)) (b := 107) fk_X12_154 dX12_plan_104 rfl hL rfl rfl rfl ?_
                  refine x_iload_n (i := 2) (b := 108) dX12_plan_107 rfl rfl rfl ?_
                  obtain ⟨hs, hF⟩ := ck_e hF
                  refine x_iald (v := gI h10 104 0 x2) (b := 109) ak_104 dX12_plan_108 hs rfl rfl ?_
                  refine x_ireturn dX12_plan_109 rfl ⟨Nat.le_refl _, Nat.le_refl _⟩ ?_
                  cases hF
                  exact ⟨rfl, rfl, hL⟩
                · replace hF := br_T hc hF
                  refine x_aload_n (i := 0) (b := 97) dX12_plan_96 rfl rfl rfl ?_
                  refine x_getI (v := gI h10 12 0 67) (b := 100) fk_X12_471 dX12_plan_97 (by decide) rfl rfl ?_
                  refine x_goto (tgt := 109) dX12_plan_100 (by decide) ?_
                  refine x_ireturn dX12_plan_109 rfl ⟨Nat.le_refl _, Nat.le_refl _⟩ ?_
                  cases hF
                  exact ⟨rfl, rfl, hL⟩
              · replace hF := br_F hc hF
                refine x_bipush (n := (-2)) (b := 90) dX12_plan_88 (by decide) rfl ?_
                refine x_ireturn dX12_plan_90 rfl ⟨Nat.le_refl _, Nat.le_refl _⟩ ?_
                cases hF
                exact ⟨rfl, rfl, hL⟩
          · replace hF := br_F hc hF
            refine x_iconst (n := (-1)) (b := 39) dX12_plan_38 (by decide) rfl ?_
            refine x_ireturn dX12_plan_39 rfl ⟨Nat.le_refl _, Nat.le_refl _⟩ ?_
            cases hF
            exact ⟨rfl, rfl, hL⟩
set_option maxHeartbeats 4000000 in
set_option maxRecDepth 100000 in
theorem u_X12_plan (E : xE) (d : Nat) (r : Int × Hp) : ∀ n : Nat, (∀ (x1 x2 : Int) (h : Hp), Lay h → g_X12_plan n 0 [x1, x2] h = some r → X E mX12_plan (d + 1008) (0, 0) (0, 0) 0 [some (xr 12 0), some (xi x1), some (xi x2)] [] h (PoI r)) := by
  intro n
  induction n with
  | zero => exact fun _ _ _ _ hF => no_e (r := r) hF
  | succ n ih => exact fun x1 x2 h hL hF => t_X12_plan_0 E d (g_X12_plan n) r  x1 x2 h hL hF
theorem c_X12_plan (d : Nat) (x1 x2 : Int) (h : Hp) (r : Int × Hp) (hL : Lay h) (hF : f_X12_plan x1 x2 h = some r) : Sp mX12_plan (d + 1008) (0, 0) [xr 12 0, xi x1, xi x2] h (PoI r) :=
  sp_of (by decide) rfl (Nat.le_of_ble_eq_true rfl) (ls := [some (xr 12 0), some (xi x1), some (xi x2)]) rfl (fun E _ => (u_X12_plan E d r FU) x1 x2 h hL hF)
theorem dX12_sure_0 : decode cX12_sure 0 = .ok (.aload_n 0, 1) := by decide +kernel
theorem dX12_sure_1 : decode cX12_sure 1 = .ok (.iconst 0, 1) := by decide +kernel
theorem dX12_sure_2 : decode cX12_sure 2 = .ok (.putfield 194, 3) := by decide +kernel
theorem dX12_sure_5 : decode cX12_sure 5 = .ok (.aload_n 0, 1) := by decide +kernel
theorem dX12_sure_6 : decode cX12_sure 6 = .ok (.iload_n 1, 1) := by decide +kernel
theorem dX12_sure_7 : decode cX12_sure 7 = .ok (.invokevirtual 508, 3) := by decide +kernel
theorem dX12_sure_10 : decode cX12_sure 10 = .ok (.ifCond .ne 5, 3) := by decide +kernel
theorem dX12_sure_13 : decode cX12_sure 13 = .ok (.iconst (-1), 1) := by decide +kernel
theorem dX12_sure_14 : decode cX12_sure 14 = .ok (.ireturn, 1) := by decide +kernel
theorem dX12_sure_15 : decode cX12_sure 15 = .ok (.aload_n 0, 1) := by decide +kernel
theorem dX12_sure_16 : decode cX12_sure 16 = .ok (.invokevirtual 511, 3) := by decide +kernel
theorem dX12_sure_19 : decode cX12_sure 19 = .ok (.istore_n 2, 1) := by decide +kernel
theorem dX12_sure_20 : decode cX12_sure 20 = .ok (.bipush (-2), 2) := by decide +kernel
theorem dX12_sure_22 : decode cX12_sure 22 = .ok (.istore_n 3, 1) := by decide +kernel
theorem dX12_sure_23 : decode cX12_sure 23 = .ok (.iconst 0, 1) := by decide +kernel
theorem dX12_sure_24 : decode cX12_sure 24 = .ok (.istore 4, 2) := by decide +kernel
theorem dX12_sure_26 : decode cX12_sure 26 = .ok (.iload 4, 2) := by decide +kernel
theorem dX12_sure_28 : decode cX12_sure 28 = .ok (.iconst 1, 1) := by decide +kernel
theorem dX12_sure_29 : decode cX12_sure 29 = .ok (.aload_n 0, 1) := by decide +kernel
theorem dX12_sure_30 : decode cX12_sure 30 = .ok (.getfield 13, 3) := by decide +kernel
theorem dX12_sure_33 : decode cX12_sure 33 = .ok (.bipush 13, 2) := by decide +kernel
theorem dX12_sure_35 : decode cX12_sure 35 = .ok (.iaload, 1) := by decide +kernel
theorem dX12_sure_36 : decode cX12_sure 36 = .ok (.ishl, 1) := by decide +kernel
theorem dX12_sure_37 : decode cX12_sure 37 = .ok (.if_icmp .ge 48, 3) := by decide +kernel
theorem dX12_sure_40 : decode cX12_sure 40 = .ok (.iload_n 2, 1) := by decide +kernel
theorem dX12_sure_41 : decode cX12_sure 41 = .ok (.iload 4, 2) := by decide +kernel
theorem dX12_sure_43 : decode cX12_sure 43 = .ok (.ishr, 1) := by decide +kernel
theorem dX12_sure_44 : decode cX12_sure 44 = .ok (.iconst 1, 1) := by decide +kernel
theorem dX12_sure_45 : decode cX12_sure 45 = .ok (.iand, 1) := by decide +kernel
theorem dX12_sure_46 : decode cX12_sure 46 = .ok (.ifCond .ne 6, 3) := by decide +kernel
theorem dX12_sure_49 : decode cX12_sure 49 = .ok (.goto 30, 3) := by decide +kernel
theorem dX12_sure_52 : decode cX12_sure 52 = .ok (.iload 4, 2) := by decide +kernel
theorem dX12_sure_54 : decode cX12_sure 54 = .ok (.iload_n 1, 1) := by decide +kernel
theorem dX12_sure_55 : decode cX12_sure 55 = .ok (.ishr, 1) := by decide +kernel
theorem dX12_sure_56 : decode cX12_sure 56 = .ok (.iconst 1, 1) := by decide +kernel
theorem dX12_sure_57 : decode cX12_sure 57 = .ok (.iand, 1) := by decide +kernel
theorem dX12_sure_58 : decode cX12_sure 58 = .ok (.istore 5, 2) := by decide +kernel
theorem dX12_sure_60 : decode cX12_sure 60 = .ok (.iload_n 3, 1) := by decide +kernel
theorem dX12_sure_61 : decode cX12_sure 61 = .ok (.bipush (-2), 2) := by decide +kernel
theorem dX12_sure_63 : decode cX12_sure 63 = .ok (.if_icmp .eq 9, 3) := by decide +kernel
theorem dX12_sure_66 : decode cX12_sure 66 = .ok (.iload_n 3, 1) := by decide +kernel
theorem dX12_sure_67 : decode cX12_sure 67 = .ok (.iload 5, 2) := by decide +kernel
theorem dX12_sure_69 : decode cX12_sure 69 = .ok (.if_icmp .ne 8, 3) := by decide +kernel
theorem dX12_sure_72 : decode cX12_sure 72 = .ok (.iload 5, 2) := by decide +kernel
theorem dX12_sure_74 : decode cX12_sure 74 = .ok (.goto 4, 3) := by decide +kernel
theorem dX12_sure_77 : decode cX12_sure 77 = .ok (.iconst 2, 1) := by decide +kernel
theorem dX12_sure_78 : decode cX12_sure 78 = .ok (.istore_n 3, 1) := by decide +kernel
theorem dX12_sure_79 : decode cX12_sure 79 = .ok (.iinc 4 1, 3) := by decide +kernel
theorem dX12_sure_82 : decode cX12_sure 82 = .ok (.goto (-56), 3) := by decide +kernel
theorem dX12_sure_85 : decode cX12_sure 85 = .ok (.iload_n 3, 1) := by decide +kernel
theorem dX12_sure_86 : decode cX12_sure 86 = .ok (.ireturn, 1) := by decide +kernel
noncomputable def b_X12_sure_0 (rec : Rk) (x1 : Int) (h : Hp) : Option (Int × Hp) :=
  lt (sI h 12 0 0 0) fun h1 =>
  bd (f_X12_isMay x1 h1) fun v2 h3 =>
  if v2 = 0 then (
    some ((-1), h3)
  ) else (
    bd (f_X12_fits h3) fun v4 h5 =>
    rec 1 [x1, v4, (-2), 0] h5
  )
noncomputable def b_X12_sure_1 (rec : Rk) (x1 x2 x3 x4 : Int) (h : Hp) : Option (Int × Hp) :=
  ck (0 ≤ (13 : Int) ∧ (13 : Int) < 30) <|
  if (bshl 1 (gI h 61 0 13)) ≤ x4 then (
    some (x3, h)
  ) else (
    if (band (bshr x2 x4) 1) = 0 then (
      rec 4 [x1, x2, x3, x4] h
    ) else (
      lt (band (bshr x4 x1) 1) fun z1 =>
      if x3 = (-2) then (
        rec 2 [x1, x2, x4, z1] h
      ) else (
        if x3 = z1 then (
          rec 2 [x1, x2, x4, z1] h
        ) else (
          rec 3 [x1, x2, x4, 2] h
        )
      )
    )
  )
noncomputable def b_X12_sure_2 (rec : Rk) (x1 x2 x4 x5 : Int) (h : Hp) : Option (Int × Hp) :=
  rec 3 [x1, x2, x4, x5] h
noncomputable def b_X12_sure_3 (rec : Rk) (x1 x2 x4 y0 : Int) (h : Hp) : Option (Int × Hp) :=
  rec 4 [x1, x2, y0, x4] h
noncomputable def b_X12_sure_4 (rec : Rk) (x1 x2 x3 x4 : Int) (h : Hp) : Option (Int × Hp) :=
  ck (-2147483648 ≤ x4 + 1 ∧ x4 + 1 < 2147483648) <|
  rec 1 [x1, x2, x3, x4 + 1] h
noncomputable def g_X12_sure (n : Nat) : Rk := Nat.rec (motive := fun _ => Rk) (fun _ _ _ => none) (fun _ rec k l h => if k = 0 then b_X12_sure_0 rec (l.getD 0 0) h else if k = 1 then b_X12_sure_1 rec (l.getD 0 0) (l.getD 1 0) (l.getD 2 0) (l.getD 3 0) h else if k = 2 then b_X12_sure_2 rec (l.getD 0 0) (l.getD 1 0) (l.getD 2 0) (l.getD 3 0) h else if k = 3 then b_X12_sure_3 rec (l.getD 0 0) (l.getD 1 0) (l.getD 2 0) (l.getD 3 0) h else if k = 4 then b_X12_sure_4 rec (l.getD 0 0) (l.getD 1 0) (l.getD 2 0) (l.getD 3 0) h else none) n
noncomputable def f_X12_sure (x1 : Int) (h : Hp) : Option (Int × Hp) := g_X12_sure FU 0 [x1] h
set_option maxHeartbeats 4000000 in
set_option maxRecDepth 100000 in
theorem t_X12_sure_0 (E : xE) (d : Nat) (rec : Rk) (r : Int × Hp) (hr_26 : ∀ (x1 x2 x3 x4 : Int) (h : Hp), Lay h → rec 1 [x1, x2, x3, x4] h = some r → X E mX12_sure (d + 9) (0, 0) (0, 0) 26 [some (xr 12 0), some (xi x1), some (xi x2), some (xi x3), some (xi x4), none] [] h (PoI r)) (x1 : Int) (h : Hp) (hL : Lay h) (hF : b_X12_sure_0 rec x1 h = some r) : X E mX12_sure (d + 9) (0, 0) (0, 0) 0 [some (xr 12 0), some (xi x1), none, none, none, none] [] h (PoI r) := by
  unfold b_X12_sure_0 at hF
  refine x_aload_n (i := 0) (b := 1) dX12_sure_0 rfl rfl rfl ?_
  refine x_iconst (n := 0) (b := 2) dX12_sure_1 (by decide) rfl ?_
  refine x_putI (b := 5) fk_X12_194 dX12_sure_2 rfl rfl 0 rfl ?_
  obtain ⟨h1, e_h1, hF⟩ := lt_e hF
  refine x_hp (h2 := h1) e_h1 ?_
  replace hL : Lay h1 := by rw [← e_h1]; exact hL
  refine x_aload_n (i := 0) (b := 6) dX12_sure_5 rfl rfl rfl ?_
  refine x_iload_n (i := 1) (b := 7) dX12_sure_6 rfl rfl rfl ?_
  obtain ⟨v2, h3, hq, hF⟩ := bd_e hF
  refine x_callV (as := [xi x1]) (rest := []) (b := 10) (c_X12_isMay (d + 7) x1 h1 _ hL hq) dX12_sure_7 cw_X12_508 ⟨_, _, rfl, Nat.le_of_ble_eq_true rfl⟩ rfl rfl (Nat.le_of_ble_eq_true rfl) ⟨Nat.le_refl _, Nat.le_refl _⟩ rfl (fun rv hh hp _ => ?_)
  obtain ⟨rfl, rfl, hL⟩ := hp
  refine x_if_ne (tgt := 15) (b := 13) dX12_sure_10 (by decide) rfl (fun hc => ?_) (fun hc => ?_)
  · replace hF := br_F hc hF
    refine x_aload_n (i := 0) (b := 16) dX12_sure_15 rfl rfl rfl ?_
    obtain ⟨v4, h5, hq, hF⟩ := bd_e hF
    refine x_callV (as := []) (rest := []) (b := 19) (c_X12_fits d h3 _ hL hq) dX12_sure_16 cw_X12_511 ⟨_, _, rfl, Nat.le_of_ble_eq_true rfl⟩ rfl rfl (Nat.le_of_ble_eq_true rfl) ⟨Nat.le_refl _, Nat.le_refl _⟩ rfl (fun rv hh hp _ => ?_)
    obtain ⟨rfl, rfl, hL⟩ := hp
    refine x_istore_n (i := 2) (b := 20) (ls2 := [some (xr 12 0), some (xi x1), some (xi v4), none, none, none]) dX12_sure_19 rfl (Nat.le_of_ble_eq_true rfl) rfl rfl ?_
    refine x_bipush (n := (-2)) (b := 22) dX12_sure_20 (by decide) rfl ?_
    refine x_istore_n (i := 3) (b := 23) (ls2 := [some (xr 12 0), some (xi x1), some (xi v4), some (xi (-2)), none, none]) dX12_sure_22 rfl (Nat.le_of_ble_eq_true rfl) rfl rfl ?_
    refine x_iconst (n := 0) (b := 24) dX12_sure_23 (by decide) rfl ?_
    refine x_istore (i := 4) (b := 26) (ls2 := [some (xr 12 0), some (xi x1), some (xi v4), some (xi (-2)), some (xi 0), none]) dX12_sure_24 (Nat.le_of_ble_eq_true rfl) rfl rfl ?_
    exact x_dp (ls2 := [some (xr 12 0), some (xi x1), some (xi v4), some (xi (-2)), some (xi 0), none]) ⟨rfl, rfl, rfl, rfl, rfl, trivial⟩ (hr_26 x1 v4 (-2) 0 h5 hL hF)
  · replace hF := br_T hc hF
    refine x_iconst (n := (-1)) (b := 14) dX12_sure_13 (by decide) rfl ?_
    refine x_ireturn dX12_sure_14 rfl ⟨Nat.le_refl _, Nat.le_refl _⟩ ?_
    cases hF
    exact ⟨rfl, rfl, hL⟩
set_option maxHeartbeats 4000000 in
set_option maxRecDepth 100000 in
theorem t_X12_sure_1 (E : xE) (d : Nat) (rec : Rk) (r : Int × Hp) (hr_72 : ∀ (x1 x2 x4 x5 : Int) (h : Hp), Lay h → rec 2 [x1, x2, x4, x5] h = some r → X E mX12_sure (d + 9) (0, 0) (0, 0) 72 [some (xr 12 0), some (xi x1), some (xi x2), none, some (xi x4), some (xi x5)] [] h (PoI r)) (hr_78 : ∀ (x1 x2 x4 y0 : Int) (h : Hp), Lay h → rec 3 [x1, x2, x4, y0] h = some r → X E mX12_sure (d + 9) (0, 0) (0, 0) 78 [some (xr 12 0), some (xi x1), some (xi x2), none, some (xi x4), none] [xi y0] h (PoI r)) (hr_79 : ∀ (x1 x2 x3 x4 : Int) (h : Hp), Lay h → rec 4 [x1, x2, x3, x4] h = some r → X E mX12_sure (d + 9) (0, 0) (0, 0) 79 [some (xr 12 0), some (xi x1), some (xi x2), some (xi x3), some (xi x4), none] [] h (PoI r)) (x1 x2 x3 x4 : Int) (h : Hp) (hL : Lay h) (hF : b_X12_sure_1 rec x1 x2 x3 x4 h = some r) : X E mX12_sure (d + 9) (0, 0) (0, 0) 26 [some (xr 12 0), some (xi x1), some (xi x2), some (xi x3), some (xi x4), none] [] h (PoI r) := by
  unfold b_X12_sure_1 at hF
  refine x_iload (i := 4) (b := 28) dX12_sure_26 rfl rfl ?_
  refine x_iconst (n := 1) (b := 29) dX12_sure_28 (by decide) rfl ?_
  refine x_aload_n (i := 0) (b := 30) dX12_sure_29 rfl rfl rfl ?_
  refine x_getL (j := 0) (t := (61, 0, true)) (b := 33) fk_X12_13 dX12_sure_30 rfl hL rfl rfl rfl ?_
  refine x_bipush (n := 13) (b := 35) dX12_sure_33 (by decide) rfl ?_
  obtain ⟨hs, hF⟩ := ck_e hF
  refine x_iald (v := gI h 61 0 13) (b := 36) ak_61 dX12_sure_35 hs rfl rfl ?_
  refine x_ishl (b := 37) dX12_sure_36 rfl ?_
  refine x_icmp_ge (tgt := 85) (b := 40) dX12_sure_37 (by decide) rfl (fun hc => ?_) (fun hc => ?_)
  · replace hF := br_T hc hF
    refine x_iload_n (i := 3) (b := 86) dX12_sure_85 rfl rfl rfl ?_
    refine x_ireturn dX12_sure_86 rfl ⟨Nat.le_refl _, Nat.le_refl _⟩ ?_
    cases hF
    exact ⟨rfl, rfl, hL⟩
  · replace hF := br_F hc hF
    refine x_iload_n (i := 2) (b := 41) dX12_sure_40 rfl rfl rfl ?_
    refine x_iload (i := 4) (b := 43) dX12_sure_41 rfl rfl ?_
    refine x_ishr (b := 44) dX12_sure_43 rfl ?_
    refine x_iconst (n := 1) (b := 45) dX12_sure_44 (by decide) rfl ?_
    refine x_iand (b := 46) dX12_sure_45 rfl ?_
    refine x_if_ne (tgt := 52) (b := 49) dX12_sure_46 (by decide) rfl (fun hc => ?_) (fun hc => ?_)
    · replace hF := br_F hc hF
      refine x_iload (i := 4) (b := 54) dX12_sure_52 rfl rfl ?_
      refine x_iload_n (i := 1) (b := 55) dX12_sure_54 rfl rfl rfl ?_
      refine x_ishr (b := 56) dX12_sure_55 rfl ?_
      refine x_iconst (n := 1) (b := 57) dX12_sure_56 (by decide) rfl ?_
      refine x_iand (b := 58) dX12_sure_57 rfl ?_
      obtain ⟨z1, e_z1, hF⟩ := lt_e hF
      refine x_eq (y := z1) e_z1 ?_
      refine x_istore (i := 5) (b := 60) (ls2 := [some (xr 12 0), some (xi x1), some (xi x2), some (xi x3), some (xi x4), some (xi z1)]) dX12_sure_58 (Nat.le_of_ble_eq_true rfl) rfl rfl ?_
      refine x_iload_n (i := 3) (b := 61) dX12_sure_60 rfl rfl rfl ?_
      refine x_bipush (n := (-2)) (b := 63) dX12_sure_61 (by decide) rfl ?_
      refine x_icmp_eq (tgt := 72) (b := 66) dX12_sure_63 (by decide) rfl (fun hc => ?_) (fun hc => ?_)
      · replace hF := br_T hc hF
        exact x_dp (ls2 := [some (xr 12 0), some (xi x1), some (xi x2), none, some (xi x4), some (xi z1)]) ⟨rfl, rfl, rfl, rfl, rfl, trivial⟩ (hr_72 x1 x2 x4 z1 h hL hF)
      · replace hF := br_F hc hF
        refine x_iload_n (i := 3) (b := 67) dX12_sure_66 rfl rfl rfl ?_
        refine x_iload (i := 5) (b := 69) dX12_sure_67 rfl rfl ?_
        refine x_icmp_ne (tgt := 77) (b := 72) dX12_sure_69 (by decide) rfl (fun hc => ?_) (fun hc => ?_)
        · replace hF := br_F hc hF
          refine x_iconst (n := 2) (b := 78) dX12_sure_77 (by decide) rfl ?_
          exact x_dp (ls2 := [some (xr 12 0), some (xi x1), some (xi x2), none, some (xi x4), none]) ⟨rfl, rfl, rfl, rfl, trivial⟩ (hr_78 x1 x2 x4 2 h hL hF)
        · replace hF := br_T hc hF
          exact x_dp (ls2 := [some (xr 12 0), some (xi x1), some (xi x2), none, some (xi x4), some (xi z1)]) ⟨rfl, rfl, rfl, rfl, rfl, trivial⟩ (hr_72 x1 x2 x4 z1 h hL hF)
    · replace hF := br_T hc hF
      refine x_goto (tgt := 79) dX12_sure_49 (by decide) ?_
      exact x_dp (ls2 := [some (xr 12 0), some (xi x1), some (xi x2), some (xi x3), some (xi x4), none]) ⟨rfl, rfl, rfl, rfl, rfl, trivial⟩ (hr_79 x1 x2 x3 x4 h hL hF)
set_option maxHeartbeats 4000000 in
set_option maxRecDepth 100000 in
theorem t_X12_sure_2 (E : xE) (d : Nat) (rec : Rk) (r : Int × Hp) (hr_78 : ∀ (x1 x2 x4 y0 : Int) (h : Hp), Lay h → rec 3 [x1, x2, x4, y0] h = some r → X E mX12_sure (d + 9) (0, 0) (0, 0) 78 [some (xr 12 0), some (xi x1), some (xi x2), none, some (xi x4), none] [xi y0] h (PoI r)) (x1 x2 x4 x5 : Int) (h : Hp) (hL : Lay h) (hF : b_X12_sure_2 rec x1 x2 x4 x5 h = some r) : X E mX12_sure (d + 9) (0, 0) (0, 0) 72 [some (xr 12 0), some (xi x1), some (xi x2), none, some (xi x4), some (xi x5)] [] h (PoI r) := by
  unfold b_X12_sure_2 at hF
  refine x_iload (i := 5) (b := 74) dX12_sure_72 rfl rfl ?_
  refine x_goto (tgt := 78) dX12_sure_74 (by decide) ?_
  exact x_dp (ls2 := [some (xr 12 0), some (xi x1), some (xi x2), none, some (xi x4), none]) ⟨rfl, rfl, rfl, rfl, trivial⟩ (hr_78 x1 x2 x4 x5 h hL hF)
set_option maxHeartbeats 4000000 in
set_option maxRecDepth 100000 in
theorem t_X12_sure_3 (E : xE) (d : Nat) (rec : Rk) (r : Int × Hp) (hr_79 : ∀ (x1 x2 x3 x4 : Int) (h : Hp), Lay h → rec 4 [x1, x2, x3, x4] h = some r → X E mX12_sure (d + 9) (0, 0) (0, 0) 79 [some (xr 12 0), some (xi x1), some (xi x2), some (xi x3), some (xi x4), none] [] h (PoI r)) (x1 x2 x4 y0 : Int) (h : Hp) (hL : Lay h) (hF : b_X12_sure_3 rec x1 x2 x4 y0 h = some r) : X E mX12_sure (d + 9) (0, 0) (0, 0) 78 [some (xr 12 0), some (xi x1), some (xi x2), none, some (xi x4), none] [xi y0] h (PoI r) := by
  unfold b_X12_sure_3 at hF
  refine x_istore_n (i := 3) (b := 79) (ls2 := [some (xr 12 0), some (xi x1), some (xi x2), some (xi y0), some (xi x4), none]) dX12_sure_78 rfl (Nat.le_of_ble_eq_true rfl) rfl rfl ?_
  exact x_dp (ls2 := [some (xr 12 0), some (xi x1), some (xi x2), some (xi y0), some (xi x4), none]) ⟨rfl, rfl, rfl, rfl, rfl, trivial⟩ (hr_79 x1 x2 y0 x4 h hL hF)
set_option maxHeartbeats 4000000 in
set_option maxRecDepth 100000 in
theorem t_X12_sure_4 (E : xE) (d : Nat) (rec : Rk) (r : Int × Hp) (hr_26 : ∀ (x1 x2 x3 x4 : Int) (h : Hp), Lay h → rec 1 [x1, x2, x3, x4] h = some r → X E mX12_sure (d + 9) (0, 0) (0, 0) 26 [some (xr 12 0), some (xi x1), some (xi x2), some (xi x3), some (xi x4), none] [] h (PoI r)) (x1 x2 x3 x4 : Int) (h : Hp) (hL : Lay h) (hF : b_X12_sure_4 rec x1 x2 x3 x4 h = some r) : X E mX12_sure (d + 9) (0, 0) (0, 0) 79 [some (xr 12 0), some (xi x1), some (xi x2), some (xi x3), some (xi x4), none] [] h (PoI r) := by
  unfold b_X12_sure_4 at hF
  obtain ⟨hs, hF⟩ := ck_e hF
  refine x_iinc (i := 4) (b := 82) (ls2 := [some (xr 12 0), some (xi x1), some (xi x2), some (xi x3), some (xi (x4 + 1)), none]) dX12_sure_79 rfl (Nat.le_of_ble_eq_true rfl) hs rfl rfl ?_
  refine x_goto (tgt := 26) dX12_sure_82 (by decide) ?_
  exact x_dp (ls2 := [some (xr 12 0), some (xi x1), some (xi x2), some (xi x3), some (xi (x4 + 1)), none]) ⟨rfl, rfl, rfl, rfl, rfl, trivial⟩ (hr_26 x1 x2 x3 (x4 + 1) h hL hF)
set_option maxHeartbeats 4000000 in
set_option maxRecDepth 100000 in
theorem u_X12_sure (E : xE) (d : Nat) (r : Int × Hp) : ∀ n : Nat, (∀ (x1 : Int) (h : Hp), Lay h → g_X12_sure n 0 [x1] h = some r → X E mX12_sure (d + 9) (0, 0) (0, 0) 0 [some (xr 12 0), some (xi x1), none, none, none, none] [] h (PoI r)) ∧ (∀ (x1 x2 x3 x4 : Int) (h : Hp), Lay h → g_X12_sure n 1 [x1, x2, x3, x4] h = some r → X E mX12_sure (d + 9) (0, 0) (0, 0) 26 [some (xr 12 0), some (xi x1), some (xi x2), some (xi x3), some (xi x4), none] [] h (PoI r)) ∧ (∀ (x1 x2 x4 x5 : Int) (h : Hp), Lay h → g_X12_sure n 2 [x1, x2, x4, x5] h = some r → X E mX12_sure (d + 9) (0, 0) (0, 0) 72 [some (xr 12 0), some (xi x1), some (xi x2), none, some (xi x4), some (xi x5)] [] h (PoI r)) ∧ (∀ (x1 x2 x4 y0 : Int) (h : Hp), Lay h → g_X12_sure n 3 [x1, x2, x4, y0] h = some r → X E mX12_sure (d + 9) (0, 0) (0, 0) 78 [some (xr 12 0), some (xi x1), some (xi x2), none, some (xi x4), none] [xi y0] h (PoI r)) ∧ (∀ (x1 x2 x3 x4 : Int) (h : Hp), Lay h → g_X12_sure n 4 [x1, x2, x3, x4] h = some r → X E mX12_sure (d + 9) (0, 0) (0, 0) 79 [some (xr 12 0), some (xi x1), some (xi x2), some (xi x3), some (xi x4), none] [] h (PoI r)) := by
  intro n
  induction n with
  | zero => exact ⟨fun _ _ _ hF => no_e (r := r) hF, fun _ _ _ _ _ _ hF => no_e (r := r) hF, fun _ _ _ _ _ _ hF => no_e (r := r) hF, fun _ _ _ _ _ _ hF => no_e (r := r) hF, fun _ _ _ _ _ _ hF => no_e (r := r) hF⟩
  | succ n ih => exact ⟨fun x1 h hL hF => t_X12_sure_0 E d (g_X12_sure n) r ih.2.1 x1 h hL hF, fun x1 x2 x3 x4 h hL hF => t_X12_sure_1 E d (g_X12_sure n) r ih.2.2.1 ih.2.2.2.1 ih.2.2.2.2 x1 x2 x3 x4 h hL hF, fun x1 x2 x4 x5 h hL hF => t_X12_sure_2 E d (g_X12_sure n) r ih.2.2.2.1 x1 x2 x4 x5 h hL hF, fun x1 x2 x4 y0 h hL hF => t_X12_sure_3 E d (g_X12_sure n) r ih.2.2.2.2 x1 x2 x4 y0 h hL hF, fun x1 x2 x3 x4 h hL hF => t_X12_sure_4 E d (g_X12_sure n) r ih.2.1 x1 x2 x3 x4 h hL hF⟩
theorem c_X12_sure (d : Nat) (x1 : Int) (h : Hp) (r : Int × Hp) (hL : Lay h) (hF : f_X12_sure x1 h = some r) : Sp mX12_sure (d + 9) (0, 0) [xr 12 0, xi x1] h (PoI r) :=
  sp_of (by decide) rfl (Nat.le_of_ble_eq_true rfl) (ls := [some (xr 12 0), some (xi x1), none, none, none, none]) rfl (fun E _ => (u_X12_sure E d r FU).1 x1 h hL hF)
theorem dX7_readLine_0 : decode cX7_readLine 0 = .ok (.aload_n 0, 1) := by decide +kernel
theorem dX7_readLine_1 : decode cX7_readLine 1 = .ok (.getfield 35, 3) := by decide +kernel
theorem dX7_readLine_4 : decode cX7_readLine 4 = .ok (.istore_n 1, 1) := by decide +kernel
theorem dX7_readLine_5 : decode cX7_readLine 5 = .ok (.aload_n 0, 1) := by decide +kernel
theorem dX7_readLine_6 : decode cX7_readLine 6 = .ok (.getfield 29, 3) := by decide +kernel
theorem dX7_readLine_9 : decode cX7_readLine 9 = .ok (.istore_n 2, 1) := by decide +kernel
theorem dX7_readLine_10 : decode cX7_readLine 10 = .ok (.aload_n 0, 1) := by decide +kernel
theorem dX7_readLine_11 : decode cX7_readLine 11 = .ok (.invokevirtual 89, 3) := by decide +kernel
theorem dX7_readLine_14 : decode cX7_readLine 14 = .ok (.iload_n 1, 1) := by decide +kernel
theorem dX7_readLine_15 : decode cX7_readLine 15 = .ok (.tableswitch 145 0 11 #[61, 70, 79, 79, 89, 98, 107, 116, 125, 125, 135, 135], 61) := by decide +kernel
theorem dX7_readLine_76 : decode cX7_readLine 76 = .ok (.aload_n 0, 1) := by decide +kernel
theorem dX7_readLine_77 : decode cX7_readLine 77 = .ok (.iload_n 2, 1) := by decide +kernel
theorem dX7_readLine_78 : decode cX7_readLine 78 = .ok (.invokevirtual 120, 3) := by decide +kernel
theorem dX7_readLine_81 : decode cX7_readLine 81 = .ok (.istore_n 3, 1) := by decide +kernel
theorem dX7_readLine_82 : decode cX7_readLine 82 = .ok (.goto 85, 3) := by decide +kernel
theorem dX7_readLine_85 : decode cX7_readLine 85 = .ok (.aload_n 0, 1) := by decide +kernel
theorem dX7_readLine_86 : decode cX7_readLine 86 = .ok (.iload_n 2, 1) := by decide +kernel
theorem dX7_readLine_87 : decode cX7_readLine 87 = .ok (.invokevirtual 124, 3) := by decide +kernel
theorem dX7_readLine_90 : decode cX7_readLine 90 = .ok (.istore_n 3, 1) := by decide +kernel
theorem dX7_readLine_91 : decode cX7_readLine 91 = .ok (.goto 76, 3) := by decide +kernel
theorem dX7_readLine_94 : decode cX7_readLine 94 = .ok (.aload_n 0, 1) := by decide +kernel
theorem dX7_readLine_95 : decode cX7_readLine 95 = .ok (.iload_n 1, 1) := by decide +kernel
theorem dX7_readLine_96 : decode cX7_readLine 96 = .ok (.iload_n 2, 1) := by decide +kernel
theorem dX7_readLine_97 : decode cX7_readLine 97 = .ok (.invokevirtual 127, 3) := by decide +kernel
theorem dX7_readLine_100 : decode cX7_readLine 100 = .ok (.istore_n 3, 1) := by decide +kernel
theorem dX7_readLine_101 : decode cX7_readLine 101 = .ok (.goto 66, 3) := by decide +kernel
theorem dX7_readLine_104 : decode cX7_readLine 104 = .ok (.aload_n 0, 1) := by decide +kernel
theorem dX7_readLine_105 : decode cX7_readLine 105 = .ok (.iload_n 2, 1) := by decide +kernel
theorem dX7_readLine_106 : decode cX7_readLine 106 = .ok (.invokevirtual 131, 3) := by decide +kernel
theorem dX7_readLine_109 : decode cX7_readLine 109 = .ok (.istore_n 3, 1) := by decide +kernel
theorem dX7_readLine_110 : decode cX7_readLine 110 = .ok (.goto 57, 3) := by decide +kernel
theorem dX7_readLine_113 : decode cX7_readLine 113 = .ok (.aload_n 0, 1) := by decide +kernel
theorem dX7_readLine_114 : decode cX7_readLine 114 = .ok (.iload_n 2, 1) := by decide +kernel
theorem dX7_readLine_115 : decode cX7_readLine 115 = .ok (.invokevirtual 134, 3) := by decide +kernel
theorem dX7_readLine_118 : decode cX7_readLine 118 = .ok (.istore_n 3, 1) := by decide +kernel
theorem dX7_readLine_119 : decode cX7_readLine 119 = .ok (.goto 48, 3) := by decide +kernel
theorem dX7_readLine_122 : decode cX7_readLine 122 = .ok (.aload_n 0, 1) := by decide +kernel
theorem dX7_readLine_123 : decode cX7_readLine 123 = .ok (.iload_n 2, 1) := by decide +kernel
theorem dX7_readLine_124 : decode cX7_readLine 124 = .ok (.invokevirtual 137, 3) := by decide +kernel
theorem dX7_readLine_127 : decode cX7_readLine 127 = .ok (.istore_n 3, 1) := by decide +kernel
theorem dX7_readLine_128 : decode cX7_readLine 128 = .ok (.goto 39, 3) := by decide +kernel
theorem dX7_readLine_131 : decode cX7_readLine 131 = .ok (.aload_n 0, 1) := by decide +kernel
theorem dX7_readLine_132 : decode cX7_readLine 132 = .ok (.iload_n 2, 1) := by decide +kernel
theorem dX7_readLine_133 : decode cX7_readLine 133 = .ok (.invokevirtual 140, 3) := by decide +kernel
theorem dX7_readLine_136 : decode cX7_readLine 136 = .ok (.istore_n 3, 1) := by decide +kernel
theorem dX7_readLine_137 : decode cX7_readLine 137 = .ok (.goto 30, 3) := by decide +kernel
theorem dX7_readLine_140 : decode cX7_readLine 140 = .ok (.aload_n 0, 1) := by decide +kernel
theorem dX7_readLine_141 : decode cX7_readLine 141 = .ok (.iload_n 1, 1) := by decide +kernel
theorem dX7_readLine_142 : decode cX7_readLine 142 = .ok (.iload_n 2, 1) := by decide +kernel
theorem dX7_readLine_143 : decode cX7_readLine 143 = .ok (.invokevirtual 143, 3) := by decide +kernel
theorem dX7_readLine_146 : decode cX7_readLine 146 = .ok (.istore_n 3, 1) := by decide +kernel
theorem dX7_readLine_147 : decode cX7_readLine 147 = .ok (.goto 20, 3) := by decide +kernel
theorem dX7_readLine_150 : decode cX7_readLine 150 = .ok (.aload_n 0, 1) := by decide +kernel
theorem dX7_readLine_151 : decode cX7_readLine 151 = .ok (.iload_n 1, 1) := by decide +kernel
theorem dX7_readLine_152 : decode cX7_readLine 152 = .ok (.iload_n 2, 1) := by decide +kernel
theorem dX7_readLine_153 : decode cX7_readLine 153 = .ok (.invokevirtual 146, 3) := by decide +kernel
theorem dX7_readLine_156 : decode cX7_readLine 156 = .ok (.istore_n 3, 1) := by decide +kernel
theorem dX7_readLine_157 : decode cX7_readLine 157 = .ok (.goto 10, 3) := by decide +kernel
theorem dX7_readLine_160 : decode cX7_readLine 160 = .ok (.aload_n 0, 1) := by decide +kernel
theorem dX7_readLine_161 : decode cX7_readLine 161 = .ok (.iconst 1, 1) := by decide +kernel
theorem dX7_readLine_162 : decode cX7_readLine 162 = .ok (.iload_n 2, 1) := by decide +kernel
theorem dX7_readLine_163 : decode cX7_readLine 163 = .ok (.invokevirtual 149, 3) := by decide +kernel
theorem dX7_readLine_166 : decode cX7_readLine 166 = .ok (.ireturn, 1) := by decide +kernel
theorem dX7_readLine_167 : decode cX7_readLine 167 = .ok (.iload_n 3, 1) := by decide +kernel
theorem dX7_readLine_168 : decode cX7_readLine 168 = .ok (.ifCond .eq 14, 3) := by decide +kernel
theorem dX7_readLine_171 : decode cX7_readLine 171 = .ok (.aload_n 0, 1) := by decide +kernel
theorem dX7_readLine_172 : decode cX7_readLine 172 = .ok (.invokevirtual 152, 3) := by decide +kernel
theorem dX7_readLine_175 : decode cX7_readLine 175 = .ok (.ifCond .eq 7, 3) := by decide +kernel
theorem dX7_readLine_178 : decode cX7_readLine 178 = .ok (.iconst 1, 1) := by decide +kernel
theorem dX7_readLine_179 : decode cX7_readLine 179 = .ok (.goto 4, 3) := by decide +kernel
theorem dX7_readLine_182 : decode cX7_readLine 182 = .ok (.iconst 0, 1) := by decide +kernel
theorem dX7_readLine_183 : decode cX7_readLine 183 = .ok (.ireturn, 1) := by decide +kernel
noncomputable def b_X7_readLine_0 (rec : Rk) (h : Hp) : Option (Int × Hp) :=
  lt (gI h 7 0 9) fun z1 =>
  lt (gI h 7 0 7) fun z2 =>
  bd (f_X7_advance h) fun v3 h4 =>
  if z1 = 0 then (
    bd (f_X7_readSea z2 h4) fun v5 h6 =>
    rec 1 [v5] h6
  ) else (
  if z1 = 1 then (
    bd (f_X7_readLand z2 h4) fun v7 h8 =>
    rec 1 [v7] h8
  ) else (
  if z1 = 2 then (
    bd (f_X7_readShip z1 z2 h4) fun v9 h10 =>
    rec 1 [v9] h10
  ) else (
  if z1 = 3 then (
    bd (f_X7_readShip z1 z2 h4) fun v11 h12 =>
    rec 1 [v11] h12
  ) else (
  if z1 = 4 then (
    bd (f_X7_readIsle z2 h4) fun v13 h14 =>
    rec 1 [v13] h14
  ) else (
  if z1 = 5 then (
    bd (f_X7_readWind z2 h4) fun v15 h16 =>
    rec 1 [v15] h16
  ) else (
  if z1 = 6 then (
    bd (f_X7_readGale z2 h4) fun v17 h18 =>
    rec 1 [v17] h18
  ) else (
  if z1 = 7 then (
    bd (f_X7_readStorm z2 h4) fun v19 h20 =>
    rec 1 [v19] h20
  ) else (
  if z1 = 8 then (
    bd (f_X7_readStore z1 z2 h4) fun v21 h22 =>
    rec 1 [v21] h22
  ) else (
  if z1 = 9 then (
    bd (f_X7_readStore z1 z2 h4) fun v23 h24 =>
    rec 1 [v23] h24
  ) else (
  if z1 = 10 then (
    bd (f_X7_readMouth z1 z2 h4) fun v25 h26 =>
    rec 1 [v25] h26
  ) else (
  if z1 = 11 then (
    bd (f_X7_readMouth z1 z2 h4) fun v27 h28 =>
    rec 1 [v27] h28
  ) else (
  bd (f_X7_wrong 1 z2 h4) fun v29 h30 =>
  ck (0 ≤ v29 ∧ v29 < 2) <|
  some (v29, h30)
  )
  )
  )
  )
  )
  )
  )
  )
  )
  )
  )
  )
noncomputable def b_X7_readLine_1 (rec : Rk) (x3 : Int) (h : Hp) : Option (Int × Hp) :=
  if x3 = 0 then (
    some (0, h)
  ) else (
    bd (f_X7_endLine h) fun v1 h2 =>
    if v1 = 0 then (
      some (0, h2)
    ) else (
      some (1, h2)
    )
  )
noncomputable def g_X7_readLine (n : Nat) : Rk := Nat.rec (motive := fun _ => Rk) (fun _ _ _ => none) (fun _ rec k l h => if k = 0 then b_X7_readLine_0 rec  h else if k = 1 then b_X7_readLine_1 rec (l.getD 0 0) h else none) n
noncomputable def f_X7_readLine (h : Hp) : Option (Int × Hp) := g_X7_readLine FU 0 [] h
set_option maxHeartbeats 4000000 in
set_option maxRecDepth 100000 in
theorem t_X7_readLine_0 (E : xE) (d : Nat) (rec : Rk) (r : Int × Hp) (hr_167 : ∀ (x3 : Int) (h : Hp), Lay h → rec 1 [x3] h = some r → X E mX7_readLine (d + 6) (0, 0) (0, 0) 167 [some (xr 7 0), none, none, some (xi x3)] [] h (PoI r)) (h : Hp) (hL : Lay h) (hF : b_X7_readLine_0 rec  h = some r) : X E mX7_readLine (d + 6) (0, 0) (0, 0) 0 [some (xr 7 0), none, none, none] [] h (PoI r) := by
  unfold b_X7_readLine_0 at hF
  refine x_aload_n (i := 0) (b := 1) dX7_readLine_0 rfl rfl rfl ?_
  refine x_getI (v := gI h 7 0 9) (b := 4) fk_X7_35 dX7_readLine_1 (by decide) rfl rfl ?_
  obtain ⟨z1, e_z1, hF⟩ := lt_e hF
  refine x_eq (y := z1) e_z1 ?_
  refine x_istore_n (i := 1) (b := 5) (ls2 := [some (xr 7 0), some (xi z1), none, none]) dX7_readLine_4 rfl (Nat.le_of_ble_eq_true rfl) rfl rfl ?_
  refine x_aload_n (i := 0) (b := 6) dX7_readLine_5 rfl rfl rfl ?_
  refine x_getI (v := gI h 7 0 7) (b := 9) fk_X7_29 dX7_readLine_6 (by decide) rfl rfl ?_
  obtain ⟨z2, e_z2, hF⟩ := lt_e hF
  refine x_eq (y := z2) e_z2 ?_
  refine x_istore_n (i := 2) (b := 10) (ls2 := [some (xr 7 0), some (xi z1), some (xi z2), none]) dX7_readLine_9 rfl (Nat.le_of_ble_eq_true rfl) rfl rfl ?_
  refine x_aload_n (i := 0) (b := 11) dX7_readLine_10 rfl rfl rfl ?_
  obtain ⟨v3, h4, hq, hF⟩ := bd_e hF
  refine x_callV (as := []) (rest := []) (b := 14) (c_X7_advance (d + 4) h _ hL hq) dX7_readLine_11 cw_X7_89 ⟨_, _, rfl, Nat.le_of_ble_eq_true rfl⟩ rfl rfl (Nat.le_of_ble_eq_true rfl) ⟨Nat.le_refl _, Nat.le_refl _⟩ rfl (fun rv hh hp _ => ?_)
  obtain ⟨rfl, rfl, hL⟩ := hp
  refine x_iload_n (i := 1) (b := 15) dX7_readLine_14 rfl rfl rfl ?_
  by_cases hw15_0 : z1 = 0
  · replace hF := br_T hw15_0 hF
    refine x_tableIn (tgt := 76) dX7_readLine_15 0 hw15_0 ⟨by decide, by decide⟩ rfl (by decide) ?_
    refine x_aload_n (i := 0) (b := 77) dX7_readLine_76 rfl rfl rfl ?_
    refine x_iload_n (i := 2) (b := 78) dX7_readLine_77 rfl rfl rfl ?_
    obtain ⟨v5, h6, hq, hF⟩ := bd_e hF
    refine x_callV (as := [xi z2]) (rest := []) (b := 81) (c_X7_readSea (d + 2) z2 h4 _ hL hq) dX7_readLine_78 cw_X7_120 ⟨_, _, rfl, Nat.le_of_ble_eq_true rfl⟩ rfl rfl (Nat.le_of_ble_eq_true rfl) ⟨Nat.le_refl _, Nat.le_refl _⟩ rfl (fun rv hh hp _ => ?_)
    obtain ⟨rfl, rfl, hL⟩ := hp
    refine x_istore_n (i := 3) (b := 82) (ls2 := [some (xr 7 0), some (xi z1), some (xi z2), some (xi v5)]) dX7_readLine_81 rfl (Nat.le_of_ble_eq_true rfl) rfl rfl ?_
    refine x_goto (tgt := 167) dX7_readLine_82 (by decide) ?_
    exact x_dp (ls2 := [some (xr 7 0), none, none, some (xi v5)]) ⟨rfl, rfl, trivial⟩ (hr_167 v5 h6 hL hF)
  replace hF := br_F hw15_0 hF
  by_cases hw15_1 : z1 = 1
  · replace hF := br_T hw15_1 hF
    refine x_tableIn (tgt := 85) dX7_readLine_15 1 hw15_1 ⟨by decide, by decide⟩ rfl (by decide) ?_
    refine x_aload_n (i := 0) (b := 86) dX7_readLine_85 rfl rfl rfl ?_
    refine x_iload_n (i := 2) (b := 87) dX7_readLine_86 rfl rfl rfl ?_
    obtain ⟨v7, h8, hq, hF⟩ := bd_e hF
    refine x_callV (as := [xi z2]) (rest := []) (b := 90) (c_X7_readLand (d + 1) z2 h4 _ hL hq) dX7_readLine_87 cw_X7_124 ⟨_, _, rfl, Nat.le_of_ble_eq_true rfl⟩ rfl rfl (Nat.le_of_ble_eq_true rfl) ⟨Nat.le_refl _, Nat.le_refl _⟩ rfl (fun rv hh hp _ => ?_)
    obtain ⟨rfl, rfl, hL⟩ := hp
    refine x_istore_n (i := 3) (b := 91) (ls2 := [some (xr 7 0), some (xi z1), some (xi z2), some (xi v7)]) dX7_readLine_90 rfl (Nat.le_of_ble_eq_true rfl) rfl rfl ?_
    refine x_goto (tgt := 167) dX7_readLine_91 (by decide) ?_
    exact x_dp (ls2 := [some (xr 7 0), none, none, some (xi v7)]) ⟨rfl, rfl, trivial⟩ (hr_167 v7 h8 hL hF)
  replace hF := br_F hw15_1 hF
  by_cases hw15_2 : z1 = 2
  · replace hF := br_T hw15_2 hF
    refine x_tableIn (tgt := 94) dX7_readLine_15 2 hw15_2 ⟨by decide, by decide⟩ rfl (by decide) ?_
    refine x_aload_n (i := 0) (b := 95) dX7_readLine_94 rfl rfl rfl ?_
    refine x_iload_n (i := 1) (b := 96) dX7_readLine_95 rfl rfl rfl ?_
    refine x_iload_n (i := 2) (b := 97) dX7_readLine_96 rfl rfl rfl ?_
    obtain ⟨v9, h10, hq, hF⟩ := bd_e hF
    refine x_callV (as := [xi z1, xi z2]) (rest := []) (b := 100) (c_X7_readShip d z1 z2 h4 _ hL hq) dX7_readLine_97 cw_X7_127 ⟨_, _, rfl, Nat.le_of_ble_eq_true rfl⟩ rfl rfl (Nat.le_of_ble_eq_true rfl) ⟨Nat.le_refl _, Nat.le_refl _⟩ rfl (fun rv hh hp _ => ?_)
    obtain ⟨rfl, rfl, hL⟩ := hp
    refine x_istore_n (i := 3) (b := 101) (ls2 := [some (xr 7 0), some (xi z1), some (xi z2), some (xi v9)]) dX7_readLine_100 rfl (Nat.le_of_ble_eq_true rfl) rfl rfl ?_
    refine x_goto (tgt := 167) dX7_readLine_101 (by decide) ?_
    exact x_dp (ls2 := [some (xr 7 0), none, none, some (xi v9)]) ⟨rfl, rfl, trivial⟩ (hr_167 v9 h10 hL hF)
  replace hF := br_F hw15_2 hF
  by_cases hw15_3 : z1 = 3
  · replace hF := br_T hw15_3 hF
    refine x_tableIn (tgt := 94) dX7_readLine_15 3 hw15_3 ⟨by decide, by decide⟩ rfl (by decide) ?_
    refine x_aload_n (i := 0) (b := 95) dX7_readLine_94 rfl rfl rfl ?_
    refine x_iload_n (i := 1) (b := 96) dX7_readLine_95 rfl rfl rfl ?_
    refine x_iload_n (i := 2) (b := 97) dX7_readLine_96 rfl rfl rfl ?_
    obtain ⟨v11, h12, hq, hF⟩ := bd_e hF
    refine x_callV (as := [xi z1, xi z2]) (rest := []) (b := 100) (c_X7_readShip d z1 z2 h4 _ hL hq) dX7_readLine_97 cw_X7_127 ⟨_, _, rfl, Nat.le_of_ble_eq_true rfl⟩ rfl rfl (Nat.le_of_ble_eq_true rfl) ⟨Nat.le_refl _, Nat.le_refl _⟩ rfl (fun rv hh hp _ => ?_)
    obtain ⟨rfl, rfl, hL⟩ := hp
    refine x_istore_n (i := 3) (b := 101) (ls2 := [some (xr 7 0), some (xi z1), some (xi z2), some (xi v11)]) dX7_readLine_100 rfl (Nat.le_of_ble_eq_true rfl) rfl rfl ?_
    refine x_goto (tgt := 167) dX7_readLine_101 (by decide) ?_
    exact x_dp (ls2 := [some (xr 7 0), none, none, some (xi v11)]) ⟨rfl, rfl, trivial⟩ (hr_167 v11 h12 hL hF)
  replace hF := br_F hw15_3 hF
  by_cases hw15_4 : z1 = 4
  · replace hF := br_T hw15_4 hF
    refine x_tableIn (tgt := 104) dX7_readLine_15 4 hw15_4 ⟨by decide, by decide⟩ rfl (by decide) ?_
    refine x_aload_n (i := 0) (b := 105) dX7_readLine_104 rfl rfl rfl ?_
    refine x_iload_n (i := 2) (b := 106) dX7_readLine_105 rfl rfl rfl ?_
    obtain ⟨v13, h14, hq, hF⟩ := bd_e hF
    refine x_callV (as := [xi z2]) (rest := []) (b := 109) (c_X7_readIsle d z2 h4 _ hL hq) dX7_readLine_106 cw_X7_131 ⟨_, _, rfl, Nat.le_of_ble_eq_true rfl⟩ rfl rfl (Nat.le_of_ble_eq_true rfl) ⟨Nat.le_refl _, Nat.le_refl _⟩ rfl (fun rv hh hp _ => ?_)
    obtain ⟨rfl, rfl, hL⟩ := hp
    refine x_istore_n (i := 3) (b := 110) (ls2 := [some (xr 7 0), some (xi z1), some (xi z2), some (xi v13)]) dX7_readLine_109 rfl (Nat.le_of_ble_eq_true rfl) rfl rfl ?_
    refine x_goto (tgt := 167) dX7_readLine_110 (by decide) ?_
    exact x_dp (ls2 := [some (xr 7 0), none, none, some (xi v13)]) ⟨rfl, rfl, trivial⟩ (hr_167 v13 h14 hL hF)
  replace hF := br_F hw15_4 hF
  by_cases hw15_5 : z1 = 5
  · replace hF := br_T hw15_5 hF
    refine x_tableIn (tgt := 113) dX7_readLine_15 5 hw15_5 ⟨by decide, by decide⟩ rfl (by decide) ?_
    refine x_aload_n (i := 0) (b := 114) dX7_readLine_113 rfl rfl rfl ?_
    refine x_iload_n (i := 2) (b := 115) dX7_readLine_114 rfl rfl rfl ?_
    obtain ⟨v15, h16, hq, hF⟩ := bd_e hF
    refine x_callV (as := [xi z2]) (rest := []) (b := 118) (c_X7_readWind (d + 2) z2 h4 _ hL hq) dX7_readLine_115 cw_X7_134 ⟨_, _, rfl, Nat.le_of_ble_eq_true rfl⟩ rfl rfl (Nat.le_of_ble_eq_true rfl) ⟨Nat.le_refl _, Nat.le_refl _⟩ rfl (fun rv hh hp _ => ?_)
    obtain ⟨rfl, rfl, hL⟩ := hp
    refine x_istore_n (i := 3) (b := 119) (ls2 := [some (xr 7 0), some (xi z1), some (xi z2), some (xi v15)]) dX7_readLine_118 rfl (Nat.le_of_ble_eq_true rfl) rfl rfl ?_
    refine x_goto (tgt := 167) dX7_readLine_119 (by decide) ?_
    exact x_dp (ls2 := [some (xr 7 0), none, none, some (xi v15)]) ⟨rfl, rfl, trivial⟩ (hr_167 v15 h16 hL hF)
  replace hF := br_F hw15_5 hF
  by_cases hw15_6 : z1 = 6
  · replace hF := br_T hw15_6 hF
    refine x_tableIn (tgt := 122) dX7_readLine_15 6 hw15_6 ⟨by decide, by decide⟩ rfl (by decide) ?_
    refine x_aload_n (i := 0) (b := 123) dX7_readLine_122 rfl rfl rfl ?_
    refine x_iload_n (i := 2) (b := 124) dX7_readLine_123 rfl rfl rfl ?_
    obtain ⟨v17, h18, hq, hF⟩ := bd_e hF
    refine x_callV (as := [xi z2]) (rest := []) (b := 127) (c_X7_readGale (d + 2) z2 h4 _ hL hq) dX7_readLine_124 cw_X7_137 ⟨_, _, rfl, Nat.le_of_ble_eq_true rfl⟩ rfl rfl (Nat.le_of_ble_eq_true rfl) ⟨Nat.le_refl _, Nat.le_refl _⟩ rfl (fun rv hh hp _ => ?_)
    obtain ⟨rfl, rfl, hL⟩ := hp
    refine x_istore_n (i := 3) (b := 128) (ls2 := [some (xr 7 0), some (xi z1), some (xi z2), some (xi v17)]) dX7_readLine_127 rfl (Nat.le_of_ble_eq_true rfl) rfl rfl ?_
    refine x_goto (tgt := 167) dX7_readLine_128 (by decide) ?_
    exact x_dp (ls2 := [some (xr 7 0), none, none, some (xi v17)]) ⟨rfl, rfl, trivial⟩ (hr_167 v17 h18 hL hF)
  replace hF := br_F hw15_6 hF
  by_cases hw15_7 : z1 = 7
  · replace hF := br_T hw15_7 hF
    refine x_tableIn (tgt := 131) dX7_readLine_15 7 hw15_7 ⟨by decide, by decide⟩ rfl (by decide) ?_
    refine x_aload_n (i := 0) (b := 132) dX7_readLine_131 rfl rfl rfl ?_
    refine x_iload_n (i := 2) (b := 133) dX7_readLine_132 rfl rfl rfl ?_
    obtain ⟨v19, h20, hq, hF⟩ := bd_e hF
    refine x_callV (as := [xi z2]) (rest := []) (b := 136) (c_X7_readStorm (d + 2) z2 h4 _ hL hq) dX7_readLine_133 cw_X7_140 ⟨_, _, rfl, Nat.le_of_ble_eq_true rfl⟩ rfl rfl (Nat.le_of_ble_eq_true rfl) ⟨Nat.le_refl _, Nat.le_refl _⟩ rfl (fun rv hh hp _ => ?_)
    obtain ⟨rfl, rfl, hL⟩ := hp
    refine x_istore_n (i := 3) (b := 137) (ls2 := [some (xr 7 0), some (xi z1), some (xi z2), some (xi v19)]) dX7_readLine_136 rfl (Nat.le_of_ble_eq_true rfl) rfl rfl ?_
    refine x_goto (tgt := 167) dX7_readLine_137 (by decide) ?_
    exact x_dp (ls2 := [some (xr 7 0), none, none, some (xi v19)]) ⟨rfl, rfl, trivial⟩ (hr_167 v19 h20 hL hF)
  replace hF := br_F hw15_7 hF
  by_cases hw15_8 : z1 = 8
  · replace hF := br_T hw15_8 hF
    refine x_tableIn (tgt := 140) dX7_readLine_15 8 hw15_8 ⟨by decide, by decide⟩ rfl (by decide) ?_
    refine x_aload_n (i := 0) (b := 141) dX7_readLine_140 rfl rfl rfl ?_
    refine x_iload_n (i := 1) (b := 142) dX7_readLine_141 rfl rfl rfl ?_
    refine x_iload_n (i := 2) (b := 143) dX7_readLine_142 rfl rfl rfl ?_
    obtain ⟨v21, h22, hq, hF⟩ := bd_e hF
    refine x_callV (as := [xi z1, xi z2]) (rest := []) (b := 146) (c_X7_readStore (d + 2) z1 z2 h4 _ hL hq) dX7_readLine_143 cw_X7_143 ⟨_, _, rfl, Nat.le_of_ble_eq_true rfl⟩ rfl rfl (Nat.le_of_ble_eq_true rfl) ⟨Nat.le_refl _, Nat.le_refl _⟩ rfl (fun rv hh hp _ => ?_)
    obtain ⟨rfl, rfl, hL⟩ := hp
    refine x_istore_n (i := 3) (b := 147) (ls2 := [some (xr 7 0), some (xi z1), some (xi z2), some (xi v21)]) dX7_readLine_146 rfl (Nat.le_of_ble_eq_true rfl) rfl rfl ?_
    refine x_goto (tgt := 167) dX7_readLine_147 (by decide) ?_
    exact x_dp (ls2 := [some (xr 7 0), none, none, some (xi v21)]) ⟨rfl, rfl, trivial⟩ (hr_167 v21 h22 hL hF)
  replace hF := br_F hw15_8 hF
  by_cases hw15_9 : z1 = 9
  · replace hF := br_T hw15_9 hF
    refine x_tableIn (tgt := 140) dX7_readLine_15 9 hw15_9 ⟨by decide, by decide⟩ rfl (by decide) ?_
    refine x_aload_n (i := 0) (b := 141) dX7_readLine_140 rfl rfl rfl ?_
    refine x_iload_n (i := 1) (b := 142) dX7_readLine_141 rfl rfl rfl ?_
    refine x_iload_n (i := 2) (b := 143) dX7_readLine_142 rfl rfl rfl ?_
    obtain ⟨v23, h24, hq, hF⟩ := bd_e hF
    refine x_callV (as := [xi z1, xi z2]) (rest := []) (b := 146) (c_X7_readStore (d + 2) z1 z2 h4 _ hL hq) dX7_readLine_143 cw_X7_143 ⟨_, _, rfl, Nat.le_of_ble_eq_true rfl⟩ rfl rfl (Nat.le_of_ble_eq_true rfl) ⟨Nat.le_refl _, Nat.le_refl _⟩ rfl (fun rv hh hp _ => ?_)
    obtain ⟨rfl, rfl, hL⟩ := hp
    refine x_istore_n (i := 3) (b := 147) (ls2 := [some (xr 7 0), some (xi z1), some (xi z2), some (xi v23)]) dX7_readLine_146 rfl (Nat.le_of_ble_eq_true rfl) rfl rfl ?_
    refine x_goto (tgt := 167) dX7_readLine_147 (by decide) ?_
    exact x_dp (ls2 := [some (xr 7 0), none, none, some (xi v23)]) ⟨rfl, rfl, trivial⟩ (hr_167 v23 h24 hL hF)
  replace hF := br_F hw15_9 hF
  by_cases hw15_10 : z1 = 10
  · replace hF := br_T hw15_10 hF
    refine x_tableIn (tgt := 150) dX7_readLine_15 10 hw15_10 ⟨by decide, by decide⟩ rfl (by decide) ?_
    refine x_aload_n (i := 0) (b := 151) dX7_readLine_150 rfl rfl rfl ?_
    refine x_iload_n (i := 1) (b := 152) dX7_readLine_151 rfl rfl rfl ?_
    refine x_iload_n (i := 2) (b := 153) dX7_readLine_152 rfl rfl rfl ?_
    obtain ⟨v25, h26, hq, hF⟩ := bd_e hF
    refine x_callV (as := [xi z1, xi z2]) (rest := []) (b := 156) (c_X7_readMouth d z1 z2 h4 _ hL hq) dX7_readLine_153 cw_X7_146 ⟨_, _, rfl, Nat.le_of_ble_eq_true rfl⟩ rfl rfl (Nat.le_of_ble_eq_true rfl) ⟨Nat.le_refl _, Nat.le_refl _⟩ rfl (fun rv hh hp _ => ?_)
    obtain ⟨rfl, rfl, hL⟩ := hp
    refine x_istore_n (i := 3) (b := 157) (ls2 := [some (xr 7 0), some (xi z1), some (xi z2), some (xi v25)]) dX7_readLine_156 rfl (Nat.le_of_ble_eq_true rfl) rfl rfl ?_
    refine x_goto (tgt := 167) dX7_readLine_157 (by decide) ?_
    exact x_dp (ls2 := [some (xr 7 0), none, none, some (xi v25)]) ⟨rfl, rfl, trivial⟩ (hr_167 v25 h26 hL hF)
  replace hF := br_F hw15_10 hF
  by_cases hw15_11 : z1 = 11
  · replace hF := br_T hw15_11 hF
    refine x_tableIn (tgt := 150) dX7_readLine_15 11 hw15_11 ⟨by decide, by decide⟩ rfl (by decide) ?_
    refine x_aload_n (i := 0) (b := 151) dX7_readLine_150 rfl rfl rfl ?_
    refine x_iload_n (i := 1) (b := 152) dX7_readLine_151 rfl rfl rfl ?_
    refine x_iload_n (i := 2) (b := 153) dX7_readLine_152 rfl rfl rfl ?_
    obtain ⟨v27, h28, hq, hF⟩ := bd_e hF
    refine x_callV (as := [xi z1, xi z2]) (rest := []) (b := 156) (c_X7_readMouth d z1 z2 h4 _ hL hq) dX7_readLine_153 cw_X7_146 ⟨_, _, rfl, Nat.le_of_ble_eq_true rfl⟩ rfl rfl (Nat.le_of_ble_eq_true rfl) ⟨Nat.le_refl _, Nat.le_refl _⟩ rfl (fun rv hh hp _ => ?_)
    obtain ⟨rfl, rfl, hL⟩ := hp
    refine x_istore_n (i := 3) (b := 157) (ls2 := [some (xr 7 0), some (xi z1), some (xi z2), some (xi v27)]) dX7_readLine_156 rfl (Nat.le_of_ble_eq_true rfl) rfl rfl ?_
    refine x_goto (tgt := 167) dX7_readLine_157 (by decide) ?_
    exact x_dp (ls2 := [some (xr 7 0), none, none, some (xi v27)]) ⟨rfl, rfl, trivial⟩ (hr_167 v27 h28 hL hF)
  replace hF := br_F hw15_11 hF
  refine x_tableOut (tgt := 160) dX7_readLine_15 (by omega) (by decide) ?_
  refine x_aload_n (i := 0) (b := 161) dX7_readLine_160 rfl rfl rfl ?_
  refine x_iconst (n := 1) (b := 162) dX7_readLine_161 (by decide) rfl ?_
  refine x_iload_n (i := 2) (b := 163) dX7_readLine_162 rfl rfl rfl ?_
  obtain ⟨v29, h30, hq, hF⟩ := bd_e hF
  refine x_callV (as := [xi 1, xi z2]) (rest := []) (b := 166) (c_X7_wrong (d + 4) 1 z2 h4 _ hL hq) dX7_readLine_163 cw_X7_149 ⟨_, _, rfl, Nat.le_of_ble_eq_true rfl⟩ rfl rfl (Nat.le_of_ble_eq_true rfl) ⟨Nat.le_refl _, Nat.le_refl _⟩ rfl (fun rv hh hp _ => ?_)
  obtain ⟨rfl, rfl, hL⟩ := hp
  obtain ⟨hs, hF⟩ := ck_e hF
  refine x_zreturn dX7_readLine_166 rfl ⟨Nat.le_refl _, Nat.le_refl _⟩ hs ?_
  cases hF
  exact ⟨rfl, rfl, hL⟩
set_option maxHeartbeats 4000000 in
set_option maxRecDepth 100000 in
theorem t_X7_readLine_1 (E : xE) (d : Nat) (rec : Rk) (r : Int × Hp) (x3 : Int) (h : Hp) (hL : Lay h) (hF : b_X7_readLine_1 rec x3 h = some r) : X E mX7_readLine (d + 6) (0, 0) (0, 0) 167 [some (xr 7 0), none, none, some (xi x3)] [] h (PoI r) := by
  unfold b_X7_readLine_1 at hF
  refine x_iload_n (i := 3) (b := 168) dX7_readLine_167 rfl rfl rfl ?_
  refine x_if_eq (tgt := 182) (b := 171) dX7_readLine_168 (by decide) rfl (fun hc => ?_) (fun hc => ?_)
  · replace hF := br_T hc hF
    refine x_iconst (n := 0) (b := 183) dX7_readLine_182 (by decide) rfl ?_
    refine x_zreturn dX7_readLine_183 rfl ⟨Nat.le_refl _, Nat.le_refl _⟩ (by decide) ?_
    cases hF
    exact ⟨rfl, rfl, hL⟩
  · replace hF := br_F hc hF
    refine x_aload_n (i := 0) (b := 172) dX7_readLine_171 rfl rfl rfl ?_
    obtain ⟨v1, h2, hq, hF⟩ := bd_e hF
    refine x_callV (as := []) (rest := []) (b := 175) (c_X7_endLine (d + 3) h _ hL hq) dX7_readLine_172 cw_X7_152 ⟨_, _, rfl, Nat.le_of_ble_eq_true rfl⟩ rfl rfl (Nat.le_of_ble_eq_true rfl) ⟨Nat.le_refl _, Nat.le_refl _⟩ rfl (fun rv hh hp _ => ?_)
    obtain ⟨rfl, rfl, hL⟩ := hp
    refine x_if_eq (tgt := 182) (b := 178) dX7_readLine_175 (by decide) rfl (fun hc => ?_) (fun hc => ?_)
    · replace hF := br_T hc hF
      refine x_iconst (n := 0) (b := 183) dX7_readLine_182 (by decide) rfl ?_
      refine x_zreturn dX7_readLine_183 rfl ⟨Nat.le_refl _, Nat.le_refl _⟩ (by decide) ?_
      cases hF
      exact ⟨rfl, rfl, hL⟩
    · replace hF := br_F hc hF
      refine x_iconst (n := 1) (b := 179) dX7_readLine_178 (by decide) rfl ?_
      refine x_goto (tgt := 183) dX7_readLine_179 (by decide) ?_
      refine x_zreturn dX7_readLine_183 rfl ⟨Nat.le_refl _, Nat.le_refl _⟩ (by decide) ?_
      cases hF
      exact ⟨rfl, rfl, hL⟩
set_option maxHeartbeats 4000000 in
set_option maxRecDepth 100000 in
theorem u_X7_readLine (E : xE) (d : Nat) (r : Int × Hp) : ∀ n : Nat, (∀ (h : Hp), Lay h → g_X7_readLine n 0 [] h = some r → X E mX7_readLine (d + 6) (0, 0) (0, 0) 0 [some (xr 7 0), none, none, none] [] h (PoI r)) ∧ (∀ (x3 : Int) (h : Hp), Lay h → g_X7_readLine n 1 [x3] h = some r → X E mX7_readLine (d + 6) (0, 0) (0, 0) 167 [some (xr 7 0), none, none, some (xi x3)] [] h (PoI r)) := by
  intro n
  induction n with
  | zero => exact ⟨fun _ _ hF => no_e (r := r) hF, fun _ _ _ hF => no_e (r := r) hF⟩
  | succ n ih => exact ⟨fun h hL hF => t_X7_readLine_0 E d (g_X7_readLine n) r ih.2  h hL hF, fun x3 h hL hF => t_X7_readLine_1 E d (g_X7_readLine n) r  x3 h hL hF⟩
theorem c_X7_readLine (d : Nat) (h : Hp) (r : Int × Hp) (hL : Lay h) (hF : f_X7_readLine  h = some r) : Sp mX7_readLine (d + 6) (0, 0) [xr 7 0] h (PoI r) :=
  sp_of (by decide) rfl (Nat.le_of_ble_eq_true rfl) (ls := [some (xr 7 0), none, none, none]) rfl (fun E _ => (u_X7_readLine E d r FU).1  h hL hF)
theorem dX11_fits_0 : decode cX11_fits 0 = .ok (.aload_n 0, 1) := by decide +kernel
theorem dX11_fits_1 : decode cX11_fits 1 = .ok (.invokevirtual 314, 3) := by decide +kernel
theorem dX11_fits_4 : decode cX11_fits 4 = .ok (.ireturn, 1) := by decide +kernel
noncomputable def b_X11_fits_0 (rec : Rk) (h : Hp) : Option (Int × Hp) :=
  bd (f_X11_fitting h) fun v1 h2 =>
  some (v1, h2)
noncomputable def g_X11_fits (n : Nat) : Rk := Nat.rec (motive := fun _ => Rk) (fun _ _ _ => none) (fun _ rec k l h => if k = 0 then b_X11_fits_0 rec  h else none) n
noncomputable def f_X11_fits (h : Hp) : Option (Int × Hp) := g_X11_fits FU 0 [] h
set_option maxHeartbeats 4000000 in
set_option maxRecDepth 100000 in
theorem t_X11_fits_0 (E : xE) (d : Nat) (rec : Rk) (r : Int × Hp) (h : Hp) (hL : Lay h) (hF : b_X11_fits_0 rec  h = some r) : X E mX11_fits (d + 8) (0, 0) (0, 0) 0 [some (xr 11 0)] [] h (PoI r) := by
  unfold b_X11_fits_0 at hF
  refine x_aload_n (i := 0) (b := 1) dX11_fits_0 rfl rfl rfl ?_
  obtain ⟨v1, h2, hq, hF⟩ := bd_e hF
  refine x_callV (as := []) (rest := []) (b := 4) (c_X11_fitting d h _ hL hq) dX11_fits_1 cw_X11_314 ⟨_, _, rfl, Nat.le_of_ble_eq_true rfl⟩ rfl rfl (Nat.le_of_ble_eq_true rfl) ⟨Nat.le_refl _, Nat.le_refl _⟩ rfl (fun rv hh hp _ => ?_)
  obtain ⟨rfl, rfl, hL⟩ := hp
  refine x_ireturn dX11_fits_4 rfl ⟨Nat.le_refl _, Nat.le_refl _⟩ ?_
  cases hF
  exact ⟨rfl, rfl, hL⟩
set_option maxHeartbeats 4000000 in
set_option maxRecDepth 100000 in
theorem u_X11_fits (E : xE) (d : Nat) (r : Int × Hp) : ∀ n : Nat, (∀ (h : Hp), Lay h → g_X11_fits n 0 [] h = some r → X E mX11_fits (d + 8) (0, 0) (0, 0) 0 [some (xr 11 0)] [] h (PoI r)) := by
  intro n
  induction n with
  | zero => exact fun _ _ hF => no_e (r := r) hF
  | succ n ih => exact fun h hL hF => t_X11_fits_0 E d (g_X11_fits n) r   h hL hF
theorem c_X11_fits (d : Nat) (h : Hp) (r : Int × Hp) (hL : Lay h) (hF : f_X11_fits  h = some r) : Sp mX11_fits (d + 8) (0, 0) [xr 11 0] h (PoI r) :=
  sp_of (by decide) rfl (Nat.le_of_ble_eq_true rfl) (ls := [some (xr 11 0)]) rfl (fun E _ => (u_X11_fits E d r FU)  h hL hF)
theorem dX7_read_0 : decode cX7_read 0 = .ok (.aload_n 0, 1) := by decide +kernel
theorem dX7_read_1 : decode cX7_read 1 = .ok (.aload_n 2, 1) := by decide +kernel
theorem dX7_read_2 : decode cX7_read 2 = .ok (.putfield 76, 3) := by decide +kernel
theorem dX7_read_5 : decode cX7_read 5 = .ok (.aload_n 0, 1) := by decide +kernel
theorem dX7_read_6 : decode cX7_read 6 = .ok (.getfield 76, 3) := by decide +kernel
theorem dX7_read_9 : decode cX7_read 9 = .ok (.invokevirtual 80, 3) := by decide +kernel
theorem dX7_read_12 : decode cX7_read 12 = .ok (.aload_n 0, 1) := by decide +kernel
theorem dX7_read_13 : decode cX7_read 13 = .ok (.getfield 72, 3) := by decide +kernel
theorem dX7_read_16 : decode cX7_read 16 = .ok (.iload_n 1, 1) := by decide +kernel
theorem dX7_read_17 : decode cX7_read 17 = .ok (.invokevirtual 85, 3) := by decide +kernel
theorem dX7_read_20 : decode cX7_read 20 = .ok (.aload_n 0, 1) := by decide +kernel
theorem dX7_read_21 : decode cX7_read 21 = .ok (.iconst 0, 1) := by decide +kernel
theorem dX7_read_22 : decode cX7_read 22 = .ok (.putfield 9, 3) := by decide +kernel
theorem dX7_read_25 : decode cX7_read 25 = .ok (.aload_n 0, 1) := by decide +kernel
theorem dX7_read_26 : decode cX7_read 26 = .ok (.iconst 0, 1) := by decide +kernel
theorem dX7_read_27 : decode cX7_read 27 = .ok (.putfield 47, 3) := by decide +kernel
theorem dX7_read_30 : decode cX7_read 30 = .ok (.aload_n 0, 1) := by decide +kernel
theorem dX7_read_31 : decode cX7_read 31 = .ok (.iconst 0, 1) := by decide +kernel
theorem dX7_read_32 : decode cX7_read 32 = .ok (.putfield 62, 3) := by decide +kernel
theorem dX7_read_35 : decode cX7_read 35 = .ok (.aload_n 0, 1) := by decide +kernel
theorem dX7_read_36 : decode cX7_read 36 = .ok (.iconst 0, 1) := by decide +kernel
theorem dX7_read_37 : decode cX7_read 37 = .ok (.putfield 15, 3) := by decide +kernel
theorem dX7_read_40 : decode cX7_read 40 = .ok (.aload_n 0, 1) := by decide +kernel
theorem dX7_read_41 : decode cX7_read 41 = .ok (.iconst (-1), 1) := by decide +kernel
theorem dX7_read_42 : decode cX7_read 42 = .ok (.putfield 18, 3) := by decide +kernel
theorem dX7_read_45 : decode cX7_read 45 = .ok (.aload_n 0, 1) := by decide +kernel
theorem dX7_read_46 : decode cX7_read 46 = .ok (.iconst (-1), 1) := by decide +kernel
theorem dX7_read_47 : decode cX7_read 47 = .ok (.putfield 21, 3) := by decide +kernel
theorem dX7_read_50 : decode cX7_read 50 = .ok (.aload_n 0, 1) := by decide +kernel
theorem dX7_read_51 : decode cX7_read 51 = .ok (.invokevirtual 89, 3) := by decide +kernel
theorem dX7_read_54 : decode cX7_read 54 = .ok (.iconst 0, 1) := by decide +kernel
theorem dX7_read_55 : decode cX7_read 55 = .ok (.istore_n 3, 1) := by decide +kernel
theorem dX7_read_56 : decode cX7_read 56 = .ok (.iload_n 3, 1) := by decide +kernel
theorem dX7_read_57 : decode cX7_read 57 = .ok (.sipush 800, 3) := by decide +kernel
theorem dX7_read_60 : decode cX7_read 60 = .ok (.if_icmp .gt 35, 3) := by decide +kernel
theorem dX7_read_63 : decode cX7_read 63 = .ok (.aload_n 0, 1) := by decide +kernel
theorem dX7_read_64 : decode cX7_read 64 = .ok (.getfield 26, 3) := by decide +kernel
theorem dX7_read_67 : decode cX7_read 67 = .ok (.ifCond .eq 28, 3) := by decide +kernel
theorem dX7_read_70 : decode cX7_read 70 = .ok (.aload_n 0, 1) := by decide +kernel
theorem dX7_read_71 : decode cX7_read 71 = .ok (.invokevirtual 92, 3) := by decide +kernel
theorem dX7_read_74 : decode cX7_read 74 = .ok (.ifCond .ne 5, 3) := by decide +kernel
theorem dX7_read_77 : decode cX7_read 77 = .ok (.iconst 0, 1) := by decide +kernel
theorem dX7_read_78 : decode cX7_read 78 = .ok (.ireturn, 1) := by decide +kernel
theorem dX7_read_79 : decode cX7_read 79 = .ok (.aload_n 0, 1) := by decide +kernel
theorem dX7_read_80 : decode cX7_read 80 = .ok (.dup, 1) := by decide +kernel
theorem dX7_read_81 : decode cX7_read 81 = .ok (.getfield 9, 3) := by decide +kernel
theorem dX7_read_84 : decode cX7_read 84 = .ok (.iconst 1, 1) := by decide +kernel
theorem dX7_read_85 : decode cX7_read 85 = .ok (.iadd, 1) := by decide +kernel
theorem dX7_read_86 : decode cX7_read 86 = .ok (.putfield 9, 3) := by decide +kernel
theorem dX7_read_89 : decode cX7_read 89 = .ok (.iinc 3 1, 3) := by decide +kernel
theorem dX7_read_92 : decode cX7_read 92 = .ok (.goto (-36), 3) := by decide +kernel
theorem dX7_read_95 : decode cX7_read 95 = .ok (.aload_n 0, 1) := by decide +kernel
theorem dX7_read_96 : decode cX7_read 96 = .ok (.getfield 76, 3) := by decide +kernel
theorem dX7_read_99 : decode cX7_read 99 = .ok (.invokevirtual 96, 3) := by decide +kernel
theorem dX7_read_102 : decode cX7_read 102 = .ok (.iconst 1, 1) := by decide +kernel
theorem dX7_read_103 : decode cX7_read 103 = .ok (.ireturn, 1) := by decide +kernel
noncomputable def b_X7_read_0 (rec : Rk) (x1 x2 : Int) (h : Hp) : Option (Int × Hp) :=
  lt (sR h 7 0 1 (some (0, x2))) fun h1 =>
  rf (gR h1 7 0 1) 0 fun j2 =>
  bd (f_X0_clear j2 h1) fun v3 h4 =>
  bd (f_X8_scan x1 h4) fun v5 h6 =>
  lt (sI h6 7 0 2 0) fun h7 =>
  lt (sI h7 7 0 13 0) fun h8 =>
  lt (sI h8 7 0 17 0) fun h9 =>
  lt (sI h9 7 0 3 0) fun h10 =>
  lt (sI h10 7 0 4 (-1)) fun h11 =>
  lt (sI h11 7 0 5 (-1)) fun h12 =>
  bd (f_X7_advance h12) fun v13 h14 =>
  rec 1 [0] h14
noncomputable def b_X7_read_1 (rec : Rk) (x3 : Int) (h : Hp) : Option (Int × Hp) :=
  if 800 < x3 then (
    rec 2 [] h
  ) else (
    if (gI h 7 0 6) = 0 then (
      rec 2 [] h
    ) else (
      bd (f_X7_readLine h) fun v1 h2 =>
      if v1 = 0 then (
        some (0, h2)
      ) else (
        ck (-2147483648 ≤ (gI h2 7 0 2) + 1 ∧ (gI h2 7 0 2) + 1 < 2147483648) <|
        lt (sI h2 7 0 2 ((gI h2 7 0 2) + 1)) fun h3 =>
        ck (-2147483648 ≤ x3 + 1 ∧ x3 + 1 < 2147483648) <|
        rec 1 [x3 + 1] h3
      )
    )
  )
noncomputable def b_X7_read_2 (rec : Rk) (h : Hp) : Option (Int × Hp) :=
  rf (gR h 7 0 1) 0 fun j1 =>
  bd (f_X0_close j1 h) fun v2 h3 =>
  some (1, h3)
noncomputable def g_X7_read (n : Nat) : Rk := Nat.rec (motive := fun _ => Rk) (fun _ _ _ => none) (fun _ rec k l h => if k = 0 then b_X7_read_0 rec (l.getD 0 0) (l.getD 1 0) h else if k = 1 then b_X7_read_1 rec (l.getD 0 0) h else if k = 2 then b_X7_read_2 rec  h else none) n
noncomputable def f_X7_read (x1 x2 : Int) (h : Hp) : Option (Int × Hp) := g_X7_read FU 0 [x1, x2] h
set_option maxHeartbeats 4000000 in
set_option maxRecDepth 100000 in
theorem t_X7_read_0 (E : xE) (d : Nat) (rec : Rk) (r : Int × Hp) (hr_56 : ∀ (x3 : Int) (h : Hp), Lay h → rec 1 [x3] h = some r → X E mX7_read (d + 7) (0, 0) (0, 0) 56 [some (xr 7 0), none, none, some (xi x3)] [] h (PoI r)) (x1 x2 : Int) (h : Hp) (hL : Lay h) (hF : b_X7_read_0 rec x1 x2 h = some r) : X E mX7_read (d + 7) (0, 0) (0, 0) 0 [some (xr 7 0), some (xi x1), some (xr 0 x2), none] [] h (PoI r) := by
  unfold b_X7_read_0 at hF
  refine x_aload_n (i := 0) (b := 1) dX7_read_0 rfl rfl rfl ?_
  refine x_aload_n (i := 2) (b := 2) dX7_read_1 rfl rfl rfl ?_
  refine x_putR (b := 5) fk_X7_76 dX7_read_2 rfl rfl 1 rfl ?_
  obtain ⟨h1, e_h1, hF⟩ := lt_e hF
  refine x_hp (h2 := h1) e_h1 ?_
  replace hL : Lay h1 := by rw [← e_h1]; exact lay_sR hL (fun k2 q => by rw [show k2 = 1 by omega]; rfl)
  refine x_aload_n (i := 0) (b := 6) dX7_read_5 rfl rfl rfl ?_
  obtain ⟨j2, e_j2, hF⟩ := rf_e hF
  refine x_getR (v := some (0, j2)) (b := 9) fk_X7_76 dX7_read_6 rfl e_j2 rfl ?_
  obtain ⟨v3, h4, hq, hF⟩ := bd_e hF
  refine x_callV (as := []) (rest := []) (b := 12) (c_X0_clear (d + 4) j2 h1 _ hL hq) dX7_read_9 cw_X7_80 ⟨_, _, rfl, Nat.le_of_ble_eq_true rfl⟩ rfl rfl (Nat.le_of_ble_eq_true rfl) ⟨Nat.le_refl _, Nat.le_refl _⟩ rfl (fun rv hh hp _ => ?_)
  obtain ⟨rfl, rfl, hL⟩ := hp
  refine x_aload_n (i := 0) (b := 13) dX7_read_12 rfl rfl rfl ?_
  refine x_getL (j := 0) (t := (8, 0, false)) (b := 16) fk_X7_72 dX7_read_13 rfl hL rfl rfl rfl ?_
  refine x_iload_n (i := 1) (b := 17) dX7_read_16 rfl rfl rfl ?_
  obtain ⟨v5, h6, hq, hF⟩ := bd_e hF
  refine x_callV (as := [xi x1]) (rest := []) (b := 20) (c_X8_scan (d + 3) x1 h4 _ hL hq) dX7_read_17 cw_X7_85 ⟨_, _, rfl, Nat.le_of_ble_eq_true rfl⟩ rfl rfl (Nat.le_of_ble_eq_true rfl) ⟨Nat.le_refl _, Nat.le_refl _⟩ rfl (fun rv hh hp _ => ?_)
  obtain ⟨rfl, rfl, hL⟩ := hp
  refine x_aload_n (i := 0) (b := 21) dX7_read_20 rfl rfl rfl ?_
  refine x_iconst (n := 0) (b := 22) dX7_read_21 (by decide) rfl ?_
  refine x_putI (b := 25) fk_X7_9 dX7_read_22 rfl rfl 2 rfl ?_
  obtain ⟨h7, e_h7, hF⟩ := lt_e hF
  refine x_hp (h2 := h7) e_h7 ?_
  replace hL : Lay h7 := by rw [← e_h7]; exact hL
  refine x_aload_n (i := 0) (b := 26) dX7_read_25 rfl rfl rfl ?_
  refine x_iconst (n := 0) (b := 27) dX7_read_26 (by decide) rfl ?_
  refine x_putI (b := 30) fk_X7_47 dX7_read_27 rfl rfl 13 rfl ?_
  obtain ⟨h8, e_h8, hF⟩ := lt_e hF
  refine x_hp (h2 := h8) e_h8 ?_
  replace hL : Lay h8 := by rw [← e_h8]; exact hL
  refine x_aload_n (i := 0) (b := 31) dX7_read_30 rfl rfl rfl ?_
  refine x_iconst (n := 0) (b := 32) dX7_read_31 (by decide) rfl ?_
  refine x_putI (b := 35) fk_X7_62 dX7_read_32 rfl rfl 17 rfl ?_
  obtain ⟨h9, e_h9, hF⟩ := lt_e hF
  refine x_hp (h2 := h9) e_h9 ?_
  replace hL : Lay h9 := by rw [← e_h9]; exact hL
  refine x_aload_n (i := 0) (b := 36) dX7_read_35 rfl rfl rfl ?_
  refine x_iconst (n := 0) (b := 37) dX7_read_36 (by decide) rfl ?_
  refine x_putI (b := 40) fk_X7_15 dX7_read_37 rfl rfl 3 rfl ?_
  obtain ⟨h10, e_h10, hF⟩ := lt_e hF
  refine x_hp (h2 := h10) e_h10 ?_
  replace hL : Lay h10 := by rw [← e_h10]; exact hL
  refine x_aload_n (i := 0) (b := 41) dX7_read_40 rfl rfl rfl ?_
  refine x_iconst (n := (-1)) (b := 42) dX7_read_41 (by decide) rfl ?_
  refine x_putI (b := 45) fk_X7_18 dX7_read_42 rfl rfl 4 rfl ?_
  obtain ⟨h11, e_h11, hF⟩ := lt_e hF
  refine x_hp (h2 := h11) e_h11 ?_
  replace hL : Lay h11 := by rw [← e_h11]; exact hL
  refine x_aload_n (i := 0) (b := 46) dX7_read_45 rfl rfl rfl ?_
  refine x_iconst (n := (-1)) (b := 47) dX7_read_46 (by decide) rfl ?_
  refine x_putI (b := 50) fk_X7_21 dX7_read_47 rfl rfl 5 rfl ?_
  obtain ⟨h12, e_h12, hF⟩ := lt_e hF
  refine x_hp (h2 := h12) e_h12 ?_
  replace hL : Lay h12 := by rw [← e_h12]; exact hL
  refine x_aload_n (i := 0) (b := 51) dX7_read_50 rfl rfl rfl ?_
  obtain ⟨v13, h14, hq, hF⟩ := bd_e hF
  refine x_callV (as := []) (rest := []) (b := 54) (c_X7_advance (d + 5) h12 _ hL hq) dX7_read_51 cw_X7_89 ⟨_, _, rfl, Nat.le_of_ble_eq_true rfl⟩ rfl rfl (Nat.le_of_ble_eq_true rfl) ⟨Nat.le_refl _, Nat.le_refl _⟩ rfl (fun rv hh hp _ => ?_)
  obtain ⟨rfl, rfl, hL⟩ := hp
  refine x_iconst (n := 0) (b := 55) dX7_read_54 (by decide) rfl ?_
  refine x_istore_n (i := 3) (b := 56) (ls2 := [some (xr 7 0), some (xi x1), some (xr 0 x2), some (xi 0)]) dX7_read_55 rfl (Nat.le_of_ble_eq_true rfl) rfl rfl ?_
  exact x_dp (ls2 := [some (xr 7 0), none, none, some (xi 0)]) ⟨rfl, rfl, trivial⟩ (hr_56 0 h14 hL hF)
set_option maxHeartbeats 4000000 in
set_option maxRecDepth 100000 in
theorem t_X7_read_1 (E : xE) (d : Nat) (rec : Rk) (r : Int × Hp) (hr_56 : ∀ (x3 : Int) (h : Hp), Lay h → rec 1 [x3] h = some r → X E mX7_read (d + 7) (0, 0) (0, 0) 56 [some (xr 7 0), none, none, some (xi x3)] [] h (PoI r)) (hr_95 : ∀ (h : Hp), Lay h → rec 2 [] h = some r → X E mX7_read (d + 7) (0, 0) (0, 0) 95 [some (xr 7 0), none, none, none] [] h (PoI r)) (x3 : Int) (h : Hp) (hL : Lay h) (hF : b_X7_read_1 rec x3 h = some r) : X E mX7_read (d + 7) (0, 0) (0, 0) 56 [some (xr 7 0), none, none, some (xi x3)] [] h (PoI r) := by
  unfold b_X7_read_1 at hF
  refine x_iload_n (i := 3) (b := 57) dX7_read_56 rfl rfl rfl ?_
  refine x_sipush (n := 800) (b := 60) dX7_read_57 (by decide) rfl ?_
  refine x_icmp_gt (tgt := 95) (b := 63) dX7_read_60 (by decide) rfl (fun hc => ?_) (fun hc => ?_)
  · replace hF := br_T hc hF
    exact x_dp (ls2 := [some (xr 7 0), none, none, none]) ⟨rfl, trivial⟩ (hr_95  h hL hF)
  · replace hF := br_F hc hF
    refine x_aload_n (i := 0) (b := 64) dX7_read_63 rfl rfl rfl ?_
    refine x_getI (v := gI h 7 0 6) (b := 67) fk_X7_26 dX7_read_64 (by decide) rfl rfl ?_
    refine x_if_eq (tgt := 95) (b := 70) dX7_read_67 (by decide) rfl (fun hc => ?_) (fun hc => ?_)
    · replace hF := br_T hc hF
      exact x_dp (ls2 := [some (xr 7 0), none, none, none]) ⟨rfl, trivial⟩ (hr_95  h hL hF)
    · replace hF := br_F hc hF
      refine x_aload_n (i := 0) (b := 71) dX7_read_70 rfl rfl rfl ?_
      obtain ⟨v1, h2, hq, hF⟩ := bd_e hF
      refine x_callV (as := []) (rest := []) (b := 74) (c_X7_readLine d h _ hL hq) dX7_read_71 cw_X7_92 ⟨_, _, rfl, Nat.le_of_ble_eq_true rfl⟩ rfl rfl (Nat.le_of_ble_eq_true rfl) ⟨Nat.le_refl _, Nat.le_refl _⟩ rfl (fun rv hh hp _ => ?_)
      obtain ⟨rfl, rfl, hL⟩ := hp
      refine x_if_ne (tgt := 79) (b := 77) dX7_read_74 (by decide) rfl (fun hc => ?_) (fun hc => ?_)
      · replace hF := br_F hc hF
        refine x_aload_n (i := 0) (b := 80) dX7_read_79 rfl rfl rfl ?_
        refine x_dup (b := 81) dX7_read_80 rfl rfl ?_
        refine x_getI (v := gI h2 7 0 2) (b := 84) fk_X7_9 dX7_read_81 (by decide) rfl rfl ?_
        refine x_iconst (n := 1) (b := 85) dX7_read_84 (by decide) rfl ?_
        obtain ⟨hs, hF⟩ := ck_e hF
        refine x_iadd (b := 86) dX7_read_85 hs rfl ?_
        refine x_putI (b := 89) fk_X7_9 dX7_read_86 rfl rfl 2 rfl ?_
        obtain ⟨h3, e_h3, hF⟩ := lt_e hF
        refine x_hp (h2 := h3) e_h3 ?_
        replace hL : Lay h3 := by rw [← e_h3]; exact hL
        obtain ⟨hs, hF⟩ := ck_e hF
        refine x_iinc (i := 3) (b := 92) (ls2 := [some (xr 7 0), none, none, some (xi (x3 + 1))]) dX7_read_89 rfl (Nat.le_of_ble_eq_true rfl) hs rfl rfl ?_
        refine x_goto (tgt := 56) dX7_read_92 (by decide) ?_
        exact x_dp (ls2 := [some (xr 7 0), none, none, some (xi (x3 + 1))]) ⟨rfl, rfl, trivial⟩ (hr_56 (x3 + 1) h3 hL hF)
      · replace hF := br_T hc hF
        refine x_iconst (n := 0) (b := 78) dX7_read_77 (by decide) rfl ?_
        refine x_zreturn dX7_read_78 rfl ⟨Nat.le_refl _, Nat.le_refl _⟩ (by decide) ?_
        cases hF
        exact ⟨rfl, rfl, hL⟩
set_option maxHeartbeats 4000000 in
set_option maxRecDepth 100000 in
theorem t_X7_read_2 (E : xE) (d : Nat) (rec : Rk) (r : Int × Hp) (h : Hp) (hL : Lay h) (hF : b_X7_read_2 rec  h = some r) : X E mX7_read (d + 7) (0, 0) (0, 0) 95 [some (xr 7 0), none, none, none] [] h (PoI r) := by
  unfold b_X7_read_2 at hF
  refine x_aload_n (i := 0) (b := 96) dX7_read_95 rfl rfl rfl ?_
  obtain ⟨j1, e_j1, hF⟩ := rf_e hF
  refine x_getR (v := some (0, j1)) (b := 99) fk_X7_76 dX7_read_96 rfl e_j1 rfl ?_
  obtain ⟨v2, h3, hq, hF⟩ := bd_e hF
  refine x_callV (as := []) (rest := []) (b := 102) (c_X0_close (d + 1) j1 h _ hL hq) dX7_read_99 cw_X7_96 ⟨_, _, rfl, Nat.le_of_ble_eq_true rfl⟩ rfl rfl (Nat.le_of_ble_eq_true rfl) ⟨Nat.le_refl _, Nat.le_refl _⟩ rfl (fun rv hh hp _ => ?_)
  obtain ⟨rfl, rfl, hL⟩ := hp
  refine x_iconst (n := 1) (b := 103) dX7_read_102 (by decide) rfl ?_
  refine x_zreturn dX7_read_103 rfl ⟨Nat.le_refl _, Nat.le_refl _⟩ (by decide) ?_
  cases hF
  exact ⟨rfl, rfl, hL⟩
set_option maxHeartbeats 4000000 in
set_option maxRecDepth 100000 in
theorem u_X7_read (E : xE) (d : Nat) (r : Int × Hp) : ∀ n : Nat, (∀ (x1 x2 : Int) (h : Hp), Lay h → g_X7_read n 0 [x1, x2] h = some r → X E mX7_read (d + 7) (0, 0) (0, 0) 0 [some (xr 7 0), some (xi x1), some (xr 0 x2), none] [] h (PoI r)) ∧ (∀ (x3 : Int) (h : Hp), Lay h → g_X7_read n 1 [x3] h = some r → X E mX7_read (d + 7) (0, 0) (0, 0) 56 [some (xr 7 0), none, none, some (xi x3)] [] h (PoI r)) ∧ (∀ (h : Hp), Lay h → g_X7_read n 2 [] h = some r → X E mX7_read (d + 7) (0, 0) (0, 0) 95 [some (xr 7 0), none, none, none] [] h (PoI r)) := by
  intro n
  induction n with
  | zero => exact ⟨fun _ _ _ _ hF => no_e (r := r) hF, fun _ _ _ hF => no_e (r := r) hF, fun _ _ hF => no_e (r := r) hF⟩
  | succ n ih => exact ⟨fun x1 x2 h hL hF => t_X7_read_0 E d (g_X7_read n) r ih.2.1 x1 x2 h hL hF, fun x3 h hL hF => t_X7_read_1 E d (g_X7_read n) r ih.2.1 ih.2.2 x3 h hL hF, fun h hL hF => t_X7_read_2 E d (g_X7_read n) r   h hL hF⟩
theorem c_X7_read (d : Nat) (x1 x2 : Int) (h : Hp) (r : Int × Hp) (hL : Lay h) (hF : f_X7_read x1 x2 h = some r) : Sp mX7_read (d + 7) (0, 0) [xr 7 0, xi x1, xr 0 x2] h (PoI r) :=
  sp_of (by decide) rfl (Nat.le_of_ble_eq_true rfl) (ls := [some (xr 7 0), some (xi x1), some (xr 0 x2), none]) rfl (fun E _ => (u_X7_read E d r FU).1 x1 x2 h hL hF)
theorem dX11_text_0 : decode cX11_text 0 = .ok (.iload_n 1, 1) := by decide +kernel
theorem dX11_text_1 : decode cX11_text 1 = .ok (.ifCond .lt 11, 3) := by decide +kernel
theorem dX11_text_4 : decode cX11_text 4 = .ok (.iload_n 1, 1) := by decide +kernel
theorem dX11_text_5 : decode cX11_text 5 = .ok (.aload_n 0, 1) := by decide +kernel
theorem dX11_text_6 : decode cX11_text 6 = .ok (.getfield 13, 3) := by decide +kernel
theorem dX11_text_9 : decode cX11_text 9 = .ok (.if_icmp .le 6, 3) := by decide +kernel
theorem dX11_text_12 : decode cX11_text 12 = .ok (.bipush (-2), 2) := by decide +kernel
theorem dX11_text_14 : decode cX11_text 14 = .ok (.ireturn, 1) := by decide +kernel
theorem dX11_text_15 : decode cX11_text 15 = .ok (.aload_n 0, 1) := by decide +kernel
theorem dX11_text_16 : decode cX11_text 16 = .ok (.iconst 0, 1) := by decide +kernel
theorem dX11_text_17 : decode cX11_text 17 = .ok (.putfield 13, 3) := by decide +kernel
theorem dX11_text_20 : decode cX11_text 20 = .ok (.aload_n 0, 1) := by decide +kernel
theorem dX11_text_21 : decode cX11_text 21 = .ok (.getfield 32, 3) := by decide +kernel
theorem dX11_text_24 : decode cX11_text 24 = .ok (.iload_n 1, 1) := by decide +kernel
theorem dX11_text_25 : decode cX11_text 25 = .ok (.aload_n 0, 1) := by decide +kernel
theorem dX11_text_26 : decode cX11_text 26 = .ok (.getfield 24, 3) := by decide +kernel
theorem dX11_text_29 : decode cX11_text 29 = .ok (.invokevirtual 105, 3) := by decide +kernel
theorem dX11_text_32 : decode cX11_text 32 = .ok (.ifCond .ne 5, 3) := by decide +kernel
theorem dX11_text_35 : decode cX11_text 35 = .ok (.iconst (-1), 1) := by decide +kernel
theorem dX11_text_36 : decode cX11_text 36 = .ok (.ireturn, 1) := by decide +kernel
theorem dX11_text_37 : decode cX11_text 37 = .ok (.aload_n 0, 1) := by decide +kernel
theorem dX11_text_38 : decode cX11_text 38 = .ok (.getfield 20, 3) := by decide +kernel
theorem dX11_text_41 : decode cX11_text 41 = .ok (.astore_n 2, 1) := by decide +kernel
theorem dX11_text_42 : decode cX11_text 42 = .ok (.aload_n 0, 1) := by decide +kernel
theorem dX11_text_43 : decode cX11_text 43 = .ok (.aload_n 0, 1) := by decide +kernel
theorem dX11_text_44 : decode cX11_text 44 = .ok (.getfield 24, 3) := by decide +kernel
theorem dX11_text_47 : decode cX11_text 47 = .ok (.putfield 20, 3) := by decide +kernel
theorem dX11_text_50 : decode cX11_text 50 = .ok (.aload_n 0, 1) := by decide +kernel
theorem dX11_text_51 : decode cX11_text 51 = .ok (.aload_n 2, 1) := by decide +kernel
theorem dX11_text_52 : decode cX11_text 52 = .ok (.putfield 24, 3) := by decide +kernel
theorem dX11_text_55 : decode cX11_text 55 = .ok (.aload_n 0, 1) := by decide +kernel
theorem dX11_text_56 : decode cX11_text 56 = .ok (.getfield 41, 3) := by decide +kernel
theorem dX11_text_59 : decode cX11_text 59 = .ok (.aload_n 0, 1) := by decide +kernel
theorem dX11_text_60 : decode cX11_text 60 = .ok (.getfield 20, 3) := by decide +kernel
theorem dX11_text_63 : decode cX11_text 63 = .ok (.putfield 109, 3) := by decide +kernel
theorem dX11_text_66 : decode cX11_text 66 = .ok (.aload_n 0, 1) := by decide +kernel
theorem dX11_text_67 : decode cX11_text 67 = .ok (.getfield 57, 3) := by decide +kernel
theorem dX11_text_70 : decode cX11_text 70 = .ok (.aload_n 0, 1) := by decide +kernel
theorem dX11_text_71 : decode cX11_text 71 = .ok (.getfield 20, 3) := by decide +kernel
theorem dX11_text_74 : decode cX11_text 74 = .ok (.invokevirtual 98, 3) := by decide +kernel
theorem dX11_text_77 : decode cX11_text 77 = .ok (.aload_n 0, 1) := by decide +kernel
theorem dX11_text_78 : decode cX11_text 78 = .ok (.getfield 88, 3) := by decide +kernel
theorem dX11_text_81 : decode cX11_text 81 = .ok (.invokevirtual 110, 3) := by decide +kernel
theorem dX11_text_84 : decode cX11_text 84 = .ok (.aload_n 0, 1) := by decide +kernel
theorem dX11_text_85 : decode cX11_text 85 = .ok (.iconst 0, 1) := by decide +kernel
theorem dX11_text_86 : decode cX11_text 86 = .ok (.putfield 81, 3) := by decide +kernel
theorem dX11_text_89 : decode cX11_text 89 = .ok (.aload_n 0, 1) := by decide +kernel
theorem dX11_text_90 : decode cX11_text 90 = .ok (.iconst 0, 1) := by decide +kernel
theorem dX11_text_91 : decode cX11_text 91 = .ok (.putfield 72, 3) := by decide +kernel
theorem dX11_text_94 : decode cX11_text 94 = .ok (.aload_n 0, 1) := by decide +kernel
theorem dX11_text_95 : decode cX11_text 95 = .ok (.iconst (-1), 1) := by decide +kernel
theorem dX11_text_96 : decode cX11_text 96 = .ok (.putfield 95, 3) := by decide +kernel
theorem dX11_text_99 : decode cX11_text 99 = .ok (.aload_n 0, 1) := by decide +kernel
theorem dX11_text_100 : decode cX11_text 100 = .ok (.getfield 32, 3) := by decide +kernel
theorem dX11_text_103 : decode cX11_text 103 = .ok (.getfield 113, 3) := by decide +kernel
theorem dX11_text_106 : decode cX11_text 106 = .ok (.ireturn, 1) := by decide +kernel
noncomputable def b_X11_text_0 (rec : Rk) (x1 : Int) (h : Hp) : Option (Int × Hp) :=
  if x1 < 0 then (
    some ((-2), h)
  ) else (
    if x1 ≤ (gI h 11 0 1) then (
      lt (sI h 11 0 1 0) fun h1 =>
      rf (gR h1 11 0 3) 0 fun j2 =>
      bd (f_X7_read x1 j2 h1) fun v3 h4 =>
      if v3 = 0 then (
        some ((-1), h4)
      ) else (
        rf (gR h4 11 0 2) 0 fun j5 =>
        rf (gR h4 11 0 3) 0 fun j6 =>
        lt (sR h4 11 0 2 (some (0, j6))) fun h7 =>
        lt (sR h7 11 0 3 (some (0, j5))) fun h8 =>
        rf (gR h8 11 0 2) 0 fun j9 =>
        lt (sR h8 2 0 0 (some (0, j9))) fun h10 =>
        rf (gR h10 11 0 2) 0 fun j11 =>
        bd (f_X10_begin 0 j11 h10) fun v12 h13 =>
        bd (f_X5_clear h13) fun v14 h15 =>
        lt (sI h15 11 0 13 0) fun h16 =>
        lt (sI h16 11 0 10 0) fun h17 =>
        lt (sI h17 11 0 16 (-1)) fun h18 =>
        some (gI h18 7 0 2, h18)
      )
    ) else (
      some ((-2), h)
    )
  )
noncomputable def g_X11_text (n : Nat) : Rk := Nat.rec (motive := fun _ => Rk) (fun _ _ _ => none) (fun _ rec k l h => if k = 0 then b_X11_text_0 rec (l.getD 0 0) h else none) n
noncomputable def f_X11_text (x1 : Int) (h : Hp) : Option (Int × Hp) := g_X11_text FU 0 [x1] h
set_option maxHeartbeats 4000000 in
set_option maxRecDepth 100000 in
theorem t_X11_text_0 (E : xE) (d : Nat) (rec : Rk) (r : Int × Hp) (x1 : Int) (h : Hp) (hL : Lay h) (hF : b_X11_text_0 rec x1 h = some r) : X E mX11_text (d + 8) (0, 0) (0, 0) 0 [some (xr 11 0), some (xi x1), none] [] h (PoI r) := by
  unfold b_X11_text_0 at hF
  refine x_iload_n (i := 1) (b := 1) dX11_text_0 rfl rfl rfl ?_
  refine x_if_lt (tgt := 12) (b := 4) dX11_text_1 (by decide) rfl (fun hc => ?_) (fun hc => ?_)
  · replace hF := br_T hc hF
    refine x_bipush (n := (-2)) (b := 14) dX11_text_12 (by decide) rfl ?_
    refine x_ireturn dX11_text_14 rfl ⟨Nat.le_refl _, Nat.le_refl _⟩ ?_
    cases hF
    exact ⟨rfl, rfl, hL⟩
  · replace hF := br_F hc hF
    refine x_iload_n (i := 1) (b := 5) dX11_text_4 rfl rfl rfl ?_
    refine x_aload_n (i := 0) (b := 6) dX11_text_5 rfl rfl rfl ?_
    refine x_getI (v := gI h 11 0 1) (b := 9) fk_X11_13 dX11_text_6 (by decide) rfl rfl ?_
    refine x_icmp_le (tgt := 15) (b := 12) dX11_text_9 (by decide) rfl (fun hc => ?_) (fun hc => ?_)
    · replace hF := br_T hc hF
      refine x_aload_n (i := 0) (b := 16) dX11_text_15 rfl rfl rfl ?_
      refine x_iconst (n := 0) (b := 17) dX11_text_16 (by decide) rfl ?_
      refine x_putI (b := 20) fk_X11_13 dX11_text_17 rfl rfl 1 rfl ?_
      obtain ⟨h1, e_h1, hF⟩ := lt_e hF
      refine x_hp (h2 := h1) e_h1 ?_
      replace hL : Lay h1 := by rw [← e_h1]; exact hL
      refine x_aload_n (i := 0) (b := 21) dX11_text_20 rfl rfl rfl ?_
      refine x_getL (j := 0) (t := (7, 0, false)) (b := 24) fk_X11_32 dX11_text_21 rfl hL rfl rfl rfl ?_
      refine x_iload_n (i := 1) (b := 25) dX11_text_24 rfl rfl rfl ?_
      refine x_aload_n (i := 0) (b := 26) dX11_text_25 rfl rfl rfl ?_
      obtain ⟨j2, e_j2, hF⟩ := rf_e hF
      refine x_getR (v := some (0, j2)) (b := 29) fk_X11_24 dX11_text_26 rfl e_j2 rfl ?_
      obtain ⟨v3, h4, hq, hF⟩ := bd_e hF
      refine x_callV (as := [xi x1, xr 0 j2]) (rest := []) (b := 32) (c_X7_read d x1 j2 h1 _ hL hq) dX11_text_29 cw_X11_105 ⟨_, _, rfl, Nat.le_of_ble_eq_true rfl⟩ rfl rfl (Nat.le_of_ble_eq_true rfl) ⟨Nat.le_refl _, Nat.le_refl _⟩ rfl (fun rv hh hp _ => ?_)
      obtain ⟨rfl, rfl, hL⟩ := hp
      refine x_if_ne (tgt := 37) (b := 35) dX11_text_32 (by decide) rfl (fun hc => ?_) (fun hc => ?_)
      · replace hF := br_F hc hF
        refine x_aload_n (i := 0) (b := 38) dX11_text_37 rfl rfl rfl ?_
        obtain ⟨j5, e_j5, hF⟩ := rf_e hF
        refine x_getR (v := some (0, j5)) (b := 41) fk_X11_20 dX11_text_38 rfl e_j5 rfl ?_
        refine x_astore_n (i := 2) (b := 42) (ls2 := [some (xr 11 0), some (xi x1), some (xr 0 j5)]) dX11_text_41 rfl (Nat.le_of_ble_eq_true rfl) rfl rfl ?_
        refine x_aload_n (i := 0) (b := 43) dX11_text_42 rfl rfl rfl ?_
        refine x_aload_n (i := 0) (b := 44) dX11_text_43 rfl rfl rfl ?_
        obtain ⟨j6, e_j6, hF⟩ := rf_e hF
        refine x_getR (v := some (0, j6)) (b := 47) fk_X11_24 dX11_text_44 rfl e_j6 rfl ?_
        refine x_putR (b := 50) fk_X11_20 dX11_text_47 rfl rfl 2 rfl ?_
        obtain ⟨h7, e_h7, hF⟩ := lt_e hF
        refine x_hp (h2 := h7) e_h7 ?_
        replace hL : Lay h7 := by rw [← e_h7]; exact lay_sR hL (fun k2 q => by rw [show k2 = 2 by omega]; rfl)
        refine x_aload_n (i := 0) (b := 51) dX11_text_50 rfl rfl rfl ?_
        refine x_aload_n (i := 2) (b := 52) dX11_text_51 rfl rfl rfl ?_
        refine x_putR (b := 55) fk_X11_24 dX11_text_52 rfl rfl 3 rfl ?_
        obtain ⟨h8, e_h8, hF⟩ := lt_e hF
        refine x_hp (h2 := h8) e_h8 ?_
        replace hL : Lay h8 := by rw [← e_h8]; exact lay_sR hL (fun k2 q => by rw [show k2 = 3 by omega]; rfl)
        refine x_aload_n (i := 0) (b := 56) dX11_text_55 rfl rfl rfl ?_
        refine x_getL (j := 0) (t := (2, 0, false)) (b := 59) fk_X11_41 dX11_text_56 rfl hL rfl rfl rfl ?_
        refine x_aload_n (i := 0) (b := 60) dX11_text_59 rfl rfl rfl ?_
        obtain ⟨j9, e_j9, hF⟩ := rf_e hF
        refine x_getR (v := some (0, j9)) (b := 63) fk_X11_20 dX11_text_60 rfl e_j9 rfl ?_
        refine x_putR (b := 66) fk_X11_109 dX11_text_63 rfl rfl 0 rfl ?_
        obtain ⟨h10, e_h10, hF⟩ := lt_e hF
        refine x_hp (h2 := h10) e_h10 ?_
        replace hL : Lay h10 := by rw [← e_h10]; exact lay_sR hL (fun k2 q => by rw [show k2 = 0 by omega]; rfl)
        refine x_aload_n (i := 0) (b := 67) dX11_text_66 rfl rfl rfl ?_
        refine x_getL (j := 0) (t := (10, 0, false)) (b := 70) fk_X11_57 dX11_text_67 rfl hL rfl rfl rfl ?_
        refine x_aload_n (i := 0) (b := 71) dX11_text_70 rfl rfl rfl ?_
        obtain ⟨j11, e_j11, hF⟩ := rf_e hF
        refine x_getR (v := some (0, j11)) (b := 74) fk_X11_20 dX11_text_71 rfl e_j11 rfl ?_
        obtain ⟨v12, h13, hq, hF⟩ := bd_e hF
        refine x_callV (as := [xr 0 j11]) (rest := []) (b := 77) (c_X10_begin (d + 6) 0 j11 h10 _ hL hq) dX11_text_74 cw_X11_98 ⟨_, _, rfl, Nat.le_of_ble_eq_true rfl⟩ rfl rfl (Nat.le_of_ble_eq_true rfl) ⟨Nat.le_refl _, Nat.le_refl _⟩ rfl (fun rv hh hp _ => ?_)
        obtain ⟨rfl, rfl, hL⟩ := hp
        refine x_aload_n (i := 0) (b := 78) dX11_text_77 rfl rfl rfl ?_
        refine x_getL (j := 0) (t := (5, 0, false)) (b := 81) fk_X11_88 dX11_text_78 rfl hL rfl rfl rfl ?_
        obtain ⟨v14, h15, hq, hF⟩ := bd_e hF
        refine x_callV (as := []) (rest := []) (b := 84) (c_X5_clear (d + 6) h13 _ hL hq) dX11_text_81 cw_X11_110 ⟨_, _, rfl, Nat.le_of_ble_eq_true rfl⟩ rfl rfl (Nat.le_of_ble_eq_true rfl) ⟨Nat.le_refl _, Nat.le_refl _⟩ rfl (fun rv hh hp _ => ?_)
        obtain ⟨rfl, rfl, hL⟩ := hp
        refine x_aload_n (i := 0) (b := 85) dX11_text_84 rfl rfl rfl ?_
        refine x_iconst (n := 0) (b := 86) dX11_text_85 (by decide) rfl ?_
        refine x_putZ (b := 89) fk_X11_81 dX11_text_86 rfl (by decide) rfl 13 rfl ?_
        obtain ⟨h16, e_h16, hF⟩ := lt_e hF
        refine x_hp (h2 := h16) e_h16 ?_
        replace hL : Lay h16 := by rw [← e_h16]; exact hL
        refine x_aload_n (i := 0) (b := 90) dX11_text_89 rfl rfl rfl ?_
        refine x_iconst (n := 0) (b := 91) dX11_text_90 (by decide) rfl ?_
        refine x_putI (b := 94) fk_X11_72 dX11_text_91 rfl rfl 10 rfl ?_
        obtain ⟨h17, e_h17, hF⟩ := lt_e hF
        refine x_hp (h2 := h17) e_h17 ?_
        replace hL : Lay h17 := by rw [← e_h17]; exact hL
        refine x_aload_n (i := 0) (b := 95) dX11_text_94 rfl rfl rfl ?_
        refine x_iconst (n := (-1)) (b := 96) dX11_text_95 (by decide) rfl ?_
        refine x_putI (b := 99) fk_X11_95 dX11_text_96 rfl rfl 16 rfl ?_
        obtain ⟨h18, e_h18, hF⟩ := lt_e hF
        refine x_hp (h2 := h18) e_h18 ?_
        replace hL : Lay h18 := by rw [← e_h18]; exact hL
        refine x_aload_n (i := 0) (b := 100) dX11_text_99 rfl rfl rfl ?_
        refine x_getL (j := 0) (t := (7, 0, false)) (b := 103) fk_X11_32 dX11_text_100 rfl hL rfl rfl rfl ?_
        refine x_getI (v := gI h18 7 0 2) (b := 106) fk_X11_113 dX11_text_103 (by decide) rfl rfl ?_
        refine x_ireturn dX11_text_106 rfl ⟨Nat.le_refl _, Nat.le_refl _⟩ ?_
        cases hF
        exact ⟨rfl, rfl, hL⟩
      · replace hF := br_T hc hF
        refine x_iconst (n := (-1)) (b := 36) dX11_text_35 (by decide) rfl ?_
        refine x_ireturn dX11_text_36 rfl ⟨Nat.le_refl _, Nat.le_refl _⟩ ?_
        cases hF
        exact ⟨rfl, rfl, hL⟩
    · replace hF := br_F hc hF
      refine x_bipush (n := (-2)) (b := 14) dX11_text_12 (by decide) rfl ?_
      refine x_ireturn dX11_text_14 rfl ⟨Nat.le_refl _, Nat.le_refl _⟩ ?_
      cases hF
      exact ⟨rfl, rfl, hL⟩
set_option maxHeartbeats 4000000 in
set_option maxRecDepth 100000 in
theorem u_X11_text (E : xE) (d : Nat) (r : Int × Hp) : ∀ n : Nat, (∀ (x1 : Int) (h : Hp), Lay h → g_X11_text n 0 [x1] h = some r → X E mX11_text (d + 8) (0, 0) (0, 0) 0 [some (xr 11 0), some (xi x1), none] [] h (PoI r)) := by
  intro n
  induction n with
  | zero => exact fun _ _ _ hF => no_e (r := r) hF
  | succ n ih => exact fun x1 h hL hF => t_X11_text_0 E d (g_X11_text n) r  x1 h hL hF
theorem c_X11_text (d : Nat) (x1 : Int) (h : Hp) (r : Int × Hp) (hL : Lay h) (hF : f_X11_text x1 h = some r) : Sp mX11_text (d + 8) (0, 0) [xr 11 0, xi x1] h (PoI r) :=
  sp_of (by decide) rfl (Nat.le_of_ble_eq_true rfl) (ls := [some (xr 11 0), some (xi x1), none]) rfl (fun E _ => (u_X11_text E d r FU) x1 h hL hF)
