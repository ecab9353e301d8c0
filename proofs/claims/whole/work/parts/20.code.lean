theorem dX7_readLand_0 : decode cX7_readLand 0 = .ok (.aload_n 0, 1) := by decide +kernel
theorem dX7_readLand_1 : decode cX7_readLand 1 = .ok (.getfield 76, 3) := by decide +kernel
theorem dX7_readLand_4 : decode cX7_readLand 4 = .ok (.getfield 158, 3) := by decide +kernel
theorem dX7_readLand_7 : decode cX7_readLand 7 = .ok (.astore_n 2, 1) := by decide +kernel
theorem dX7_readLand_8 : decode cX7_readLand 8 = .ok (.aload_n 2, 1) := by decide +kernel
theorem dX7_readLand_9 : decode cX7_readLand 9 = .ok (.getfield 182, 3) := by decide +kernel
theorem dX7_readLand_12 : decode cX7_readLand 12 = .ok (.bipush 20, 2) := by decide +kernel
theorem dX7_readLand_14 : decode cX7_readLand 14 = .ok (.if_icmp .lt 10, 3) := by decide +kernel
theorem dX7_readLand_17 : decode cX7_readLand 17 = .ok (.aload_n 0, 1) := by decide +kernel
theorem dX7_readLand_18 : decode cX7_readLand 18 = .ok (.iconst 2, 1) := by decide +kernel
theorem dX7_readLand_19 : decode cX7_readLand 19 = .ok (.iload_n 1, 1) := by decide +kernel
theorem dX7_readLand_20 : decode cX7_readLand 20 = .ok (.invokevirtual 149, 3) := by decide +kernel
theorem dX7_readLand_23 : decode cX7_readLand 23 = .ok (.ireturn, 1) := by decide +kernel
theorem dX7_readLand_24 : decode cX7_readLand 24 = .ok (.aload_n 0, 1) := by decide +kernel
theorem dX7_readLand_25 : decode cX7_readLand 25 = .ok (.invokevirtual 173, 3) := by decide +kernel
theorem dX7_readLand_28 : decode cX7_readLand 28 = .ok (.ifCond .ne 5, 3) := by decide +kernel
theorem dX7_readLand_31 : decode cX7_readLand 31 = .ok (.iconst 0, 1) := by decide +kernel
theorem dX7_readLand_32 : decode cX7_readLand 32 = .ok (.ireturn, 1) := by decide +kernel
theorem dX7_readLand_33 : decode cX7_readLand 33 = .ok (.aload_n 2, 1) := by decide +kernel
theorem dX7_readLand_34 : decode cX7_readLand 34 = .ok (.aload_n 0, 1) := by decide +kernel
theorem dX7_readLand_35 : decode cX7_readLand 35 = .ok (.getfield 41, 3) := by decide +kernel
theorem dX7_readLand_38 : decode cX7_readLand 38 = .ok (.invokevirtual 176, 3) := by decide +kernel
theorem dX7_readLand_41 : decode cX7_readLand 41 = .ok (.ifCond .eq 13, 3) := by decide +kernel
theorem dX7_readLand_44 : decode cX7_readLand 44 = .ok (.aload_n 0, 1) := by decide +kernel
theorem dX7_readLand_45 : decode cX7_readLand 45 = .ok (.iconst 3, 1) := by decide +kernel
theorem dX7_readLand_46 : decode cX7_readLand 46 = .ok (.aload_n 0, 1) := by decide +kernel
theorem dX7_readLand_47 : decode cX7_readLand 47 = .ok (.getfield 44, 3) := by decide +kernel
theorem dX7_readLand_50 : decode cX7_readLand 50 = .ok (.invokevirtual 149, 3) := by decide +kernel
theorem dX7_readLand_53 : decode cX7_readLand 53 = .ok (.ireturn, 1) := by decide +kernel
theorem dX7_readLand_54 : decode cX7_readLand 54 = .ok (.aload_n 0, 1) := by decide +kernel
theorem dX7_readLand_55 : decode cX7_readLand 55 = .ok (.iconst 2, 1) := by decide +kernel
theorem dX7_readLand_56 : decode cX7_readLand 56 = .ok (.invokevirtual 155, 3) := by decide +kernel
theorem dX7_readLand_59 : decode cX7_readLand 59 = .ok (.ifCond .eq 14, 3) := by decide +kernel
theorem dX7_readLand_62 : decode cX7_readLand 62 = .ok (.aload_n 2, 1) := by decide +kernel
theorem dX7_readLand_63 : decode cX7_readLand 63 = .ok (.getfield 185, 3) := by decide +kernel
theorem dX7_readLand_66 : decode cX7_readLand 66 = .ok (.aload_n 0, 1) := by decide +kernel
theorem dX7_readLand_67 : decode cX7_readLand 67 = .ok (.getfield 41, 3) := by decide +kernel
theorem dX7_readLand_70 : decode cX7_readLand 70 = .ok (.if_icmp .eq 33, 3) := by decide +kernel
theorem dX7_readLand_73 : decode cX7_readLand 73 = .ok (.aload_n 0, 1) := by decide +kernel
theorem dX7_readLand_74 : decode cX7_readLand 74 = .ok (.iconst 3, 1) := by decide +kernel
theorem dX7_readLand_75 : decode cX7_readLand 75 = .ok (.invokevirtual 155, 3) := by decide +kernel
theorem dX7_readLand_78 : decode cX7_readLand 78 = .ok (.ifCond .eq 14, 3) := by decide +kernel
theorem dX7_readLand_81 : decode cX7_readLand 81 = .ok (.aload_n 2, 1) := by decide +kernel
theorem dX7_readLand_82 : decode cX7_readLand 82 = .ok (.getfield 188, 3) := by decide +kernel
theorem dX7_readLand_85 : decode cX7_readLand 85 = .ok (.aload_n 0, 1) := by decide +kernel
theorem dX7_readLand_86 : decode cX7_readLand 86 = .ok (.getfield 41, 3) := by decide +kernel
theorem dX7_readLand_89 : decode cX7_readLand 89 = .ok (.if_icmp .eq 14, 3) := by decide +kernel
theorem dX7_readLand_92 : decode cX7_readLand 92 = .ok (.aload_n 2, 1) := by decide +kernel
theorem dX7_readLand_93 : decode cX7_readLand 93 = .ok (.aload_n 0, 1) := by decide +kernel
theorem dX7_readLand_94 : decode cX7_readLand 94 = .ok (.getfield 41, 3) := by decide +kernel
theorem dX7_readLand_97 : decode cX7_readLand 97 = .ok (.invokevirtual 191, 3) := by decide +kernel
theorem dX7_readLand_100 : decode cX7_readLand 100 = .ok (.ifCond .eq 13, 3) := by decide +kernel
theorem dX7_readLand_103 : decode cX7_readLand 103 = .ok (.aload_n 0, 1) := by decide +kernel
theorem dX7_readLand_104 : decode cX7_readLand 104 = .ok (.iconst 5, 1) := by decide +kernel
theorem dX7_readLand_105 : decode cX7_readLand 105 = .ok (.aload_n 0, 1) := by decide +kernel
theorem dX7_readLand_106 : decode cX7_readLand 106 = .ok (.getfield 44, 3) := by decide +kernel
theorem dX7_readLand_109 : decode cX7_readLand 109 = .ok (.invokevirtual 149, 3) := by decide +kernel
theorem dX7_readLand_112 : decode cX7_readLand 112 = .ok (.ireturn, 1) := by decide +kernel
theorem dX7_readLand_113 : decode cX7_readLand 113 = .ok (.aload_n 0, 1) := by decide +kernel
theorem dX7_readLand_114 : decode cX7_readLand 114 = .ok (.dup, 1) := by decide +kernel
theorem dX7_readLand_115 : decode cX7_readLand 115 = .ok (.getfield 47, 3) := by decide +kernel
theorem dX7_readLand_118 : decode cX7_readLand 118 = .ok (.iconst 2, 1) := by decide +kernel
theorem dX7_readLand_119 : decode cX7_readLand 119 = .ok (.ior, 1) := by decide +kernel
theorem dX7_readLand_120 : decode cX7_readLand 120 = .ok (.putfield 47, 3) := by decide +kernel
theorem dX7_readLand_123 : decode cX7_readLand 123 = .ok (.aload_n 2, 1) := by decide +kernel
theorem dX7_readLand_124 : decode cX7_readLand 124 = .ok (.dup, 1) := by decide +kernel
theorem dX7_readLand_125 : decode cX7_readLand 125 = .ok (.getfield 194, 3) := by decide +kernel
theorem dX7_readLand_128 : decode cX7_readLand 128 = .ok (.lconst 1, 1) := by decide +kernel
theorem dX7_readLand_129 : decode cX7_readLand 129 = .ok (.aload_n 0, 1) := by decide +kernel
theorem dX7_readLand_130 : decode cX7_readLand 130 = .ok (.getfield 41, 3) := by decide +kernel
theorem dX7_readLand_133 : decode cX7_readLand 133 = .ok (.lshl, 1) := by decide +kernel
theorem dX7_readLand_134 : decode cX7_readLand 134 = .ok (.lor, 1) := by decide +kernel
theorem dX7_readLand_135 : decode cX7_readLand 135 = .ok (.putfield 194, 3) := by decide +kernel
theorem dX7_readLand_138 : decode cX7_readLand 138 = .ok (.aload_n 2, 1) := by decide +kernel
theorem dX7_readLand_139 : decode cX7_readLand 139 = .ok (.dup, 1) := by decide +kernel
theorem dX7_readLand_140 : decode cX7_readLand 140 = .ok (.getfield 182, 3) := by decide +kernel
theorem dX7_readLand_143 : decode cX7_readLand 143 = .ok (.iconst 1, 1) := by decide +kernel
theorem dX7_readLand_144 : decode cX7_readLand 144 = .ok (.iadd, 1) := by decide +kernel
theorem dX7_readLand_145 : decode cX7_readLand 145 = .ok (.putfield 182, 3) := by decide +kernel
theorem dX7_readLand_148 : decode cX7_readLand 148 = .ok (.iconst 1, 1) := by decide +kernel
theorem dX7_readLand_149 : decode cX7_readLand 149 = .ok (.ireturn, 1) := by decide +kernel
noncomputable def b_X7_readLand_0 (rec : Rk) (x1 : Int) (h : Hp) : Option (Int × Hp) :=
  rf (gR h 7 0 1) 0 fun j1 =>
  if (gI h 9 j1 3) < 20 then (
    bd (f_X7_readCell h) fun v2 h3 =>
    if v2 = 0 then (
      some (0, h3)
    ) else (
      bd (f_X9_isLand j1 (gI h3 7 0 11) h3) fun v4 h5 =>
      if v4 = 0 then (
        bd (f_X7_isTold 2 h5) fun v6 h7 =>
        if v6 = 0 then (
          rec 1 [j1] h7
        ) else (
          if (gI h7 9 j1 4) = (gI h7 7 0 11) then (
            rec 3 [] h7
          ) else (
            rec 1 [j1] h7
          )
        )
      ) else (
        bd (f_X7_wrong 3 (gI h5 7 0 12) h5) fun v8 h9 =>
        ck (0 ≤ v8 ∧ v8 < 2) <|
        some (v8, h9)
      )
    )
  ) else (
    bd (f_X7_wrong 2 x1 h) fun v10 h11 =>
    ck (0 ≤ v10 ∧ v10 < 2) <|
    some (v10, h11)
  )
noncomputable def b_X7_readLand_1 (rec : Rk) (x2 : Int) (h : Hp) : Option (Int × Hp) :=
  bd (f_X7_isTold 3 h) fun v1 h2 =>
  if v1 = 0 then (
    rec 2 [x2] h2
  ) else (
    if (gI h2 9 x2 5) = (gI h2 7 0 11) then (
      rec 3 [] h2
    ) else (
      rec 2 [x2] h2
    )
  )
noncomputable def b_X7_readLand_2 (rec : Rk) (x2 : Int) (h : Hp) : Option (Int × Hp) :=
  bd (f_X9_isIsle x2 (gI h 7 0 11) h) fun v1 h2 =>
  if v1 = 0 then (
    lt (sI h2 7 0 13 (bor (gI h2 7 0 13) 2)) fun h3 =>
    lt (sI h3 9 x2 2 (borL (gI h3 9 x2 2) (bshlL 1 (gI h3 7 0 11)))) fun h4 =>
    ck (-2147483648 ≤ (gI h4 9 x2 3) + 1 ∧ (gI h4 9 x2 3) + 1 < 2147483648) <|
    lt (sI h4 9 x2 3 ((gI h4 9 x2 3) + 1)) fun h5 =>
    some (1, h5)
  ) else (
    rec 3 [] h2
  )
noncomputable def b_X7_readLand_3 (rec : Rk) (h : Hp) : Option (Int × Hp) :=
  bd (f_X7_wrong 5 (gI h 7 0 12) h) fun v1 h2 =>
  ck (0 ≤ v1 ∧ v1 < 2) <|
  some (v1, h2)
noncomputable def g_X7_readLand (n : Nat) : Rk := Nat.rec (motive := fun _ => Rk) (fun _ _ _ => none) (fun _ rec k l h => if k = 0 then b_X7_readLand_0 rec (l.getD 0 0) h else if k = 1 then b_X7_readLand_1 rec (l.getD 0 0) h else if k = 2 then b_X7_readLand_2 rec (l.getD 0 0) h else if k = 3 then b_X7_readLand_3 rec  h else none) n
noncomputable def f_X7_readLand (x1 : Int) (h : Hp) : Option (Int × Hp) := g_X7_readLand FU 0 [x1] h
set_option maxHeartbeats 4000000 in
set_option maxRecDepth 100000 in
theorem t_X7_readLand_0 (E : xE) (d : Nat) (rec : Rk) (r : Int × Hp) (hr_73 : ∀ (x2 : Int) (h : Hp), Lay h → rec 1 [x2] h = some r → X E mX7_readLand (d + 4) (0, 0) (0, 0) 73 [some (xr 7 0), none, some (xr 9 x2)] [] h (PoI r)) (hr_103 : ∀ (h : Hp), Lay h → rec 3 [] h = some r → X E mX7_readLand (d + 4) (0, 0) (0, 0) 103 [some (xr 7 0), none, none] [] h (PoI r)) (x1 : Int) (h : Hp) (hL : Lay h) (hF : b_X7_readLand_0 rec x1 h = some r) : X E mX7_readLand (d + 4) (0, 0) (0, 0) 0 [some (xr 7 0), some (xi x1), none] [] h (PoI r) := by
  unfold b_X7_readLand_0 at hF
  refine x_aload_n (i := 0) (b := 1) dX7_readLand_0 rfl rfl rfl ?_
  obtain ⟨j1, e_j1, hF⟩ := rf_e hF
  refine x_getR (v := some (0, j1)) (b := 4) fk_X7_76 dX7_readLand_1 rfl e_j1 rfl ?_
  refine x_getL (j := j1) (t := (9, 0, true)) (b := 7) fk_X7_158 dX7_readLand_4 rfl hL rfl rfl rfl ?_
  refine x_astore_n (i := 2) (b := 8) (ls2 := [some (xr 7 0), some (xi x1), some (xr 9 j1)]) dX7_readLand_7 rfl (Nat.le_of_ble_eq_true rfl) rfl rfl ?_
  refine x_aload_n (i := 2) (b := 9) dX7_readLand_8 rfl rfl rfl ?_
  refine x_getI (v := gI h 9 j1 3) (b := 12) fk_X7_182 dX7_readLand_9 (by decide) rfl rfl ?_
  refine x_bipush (n := 20) (b := 14) dX7_readLand_12 (by decide) rfl ?_
  refine x_icmp_lt (tgt := 24) (b := 17) dX7_readLand_14 (by decide) rfl (fun hc => ?_) (fun hc => ?_)
  · replace hF := br_T hc hF
    refine x_aload_n (i := 0) (b := 25) dX7_readLand_24 rfl rfl rfl ?_
    obtain ⟨v2, h3, hq, hF⟩ := bd_e hF
    refine x_callV (as := []) (rest := []) (b := 28) (c_X7_readCell d h _ hL hq) dX7_readLand_25 cw_X7_173 ⟨_, _, rfl, Nat.le_of_ble_eq_true rfl⟩ rfl rfl (Nat.le_of_ble_eq_true rfl) ⟨Nat.le_refl _, Nat.le_refl _⟩ rfl (fun rv hh hp _ => ?_)
    obtain ⟨rfl, rfl, hL⟩ := hp
    refine x_if_ne (tgt := 33) (b := 31) dX7_readLand_28 (by decide) rfl (fun hc => ?_) (fun hc => ?_)
    · replace hF := br_F hc hF
      refine x_aload_n (i := 2) (b := 34) dX7_readLand_33 rfl rfl rfl ?_
      refine x_aload_n (i := 0) (b := 35) dX7_readLand_34 rfl rfl rfl ?_
      refine x_getI (v := gI h3 7 0 11) (b := 38) fk_X7_41 dX7_readLand_35 (by decide) rfl rfl ?_
      obtain ⟨v4, h5, hq, hF⟩ := bd_e hF
      refine x_callV (as := [xi (gI h3 7 0 11)]) (rest := []) (b := 41) (c_X9_isLand (d + 1) j1 (gI h3 7 0 11) h3 _ hL hq) dX7_readLand_38 cw_X7_176 ⟨_, _, rfl, Nat.le_of_ble_eq_true rfl⟩ rfl rfl (Nat.le_of_ble_eq_true rfl) ⟨Nat.le_refl _, Nat.le_refl _⟩ rfl (fun rv hh hp _ => ?_)
      obtain ⟨rfl, rfl, hL⟩ := hp
      refine x_if_eq (tgt := 54) (b := 44) dX7_readLand_41 (by decide) rfl (fun hc => ?_) (fun hc => ?_)
      · replace hF := br_T hc hF
        refine x_aload_n (i := 0) (b := 55) dX7_readLand_54 rfl rfl rfl ?_
        refine x_iconst (n := 2) (b := 56) dX7_readLand_55 (by decide) rfl ?_
        obtain ⟨v6, h7, hq, hF⟩ := bd_e hF
        refine x_callV (as := [xi 2]) (rest := []) (b := 59) (c_X7_isTold (d + 2) 2 h5 _ hL hq) dX7_readLand_56 cw_X7_155 ⟨_, _, rfl, Nat.le_of_ble_eq_true rfl⟩ rfl rfl (Nat.le_of_ble_eq_true rfl) ⟨Nat.le_refl _, Nat.le_refl _⟩ rfl (fun rv hh hp _ => ?_)
        obtain ⟨rfl, rfl, hL⟩ := hp
        refine x_if_eq (tgt := 73) (b := 62) dX7_readLand_59 (by decide) rfl (fun hc => ?_) (fun hc => ?_)
        · replace hF := br_T hc hF
          exact x_dp (ls2 := [some (xr 7 0), none, some (xr 9 j1)]) ⟨rfl, rfl, trivial⟩ (hr_73 j1 h7 hL hF)
        · replace hF := br_F hc hF
          refine x_aload_n (i := 2) (b := 63) dX7_readLand_62 rfl rfl rfl ?_
          refine x_getI (v := gI h7 9 j1 4) (b := 66) fk_X7_185 dX7_readLand_63 (by decide) rfl rfl ?_
          refine x_aload_n (i := 0) (b := 67) dX7_readLand_66 rfl rfl rfl ?_
          refine x_getI (v := gI h7 7 0 11) (b := 70) fk_X7_41 dX7_readLand_67 (by decide) rfl rfl ?_
          refine x_icmp_eq (tgt := 103) (b := 73) dX7_readLand_70 (by decide) rfl (fun hc => ?_) (fun hc => ?_)
          · replace hF := br_T hc hF
            exact x_dp (ls2 := [some (xr 7 0), none, none]) ⟨rfl, trivial⟩ (hr_103  h7 hL hF)
          · replace hF := br_F hc hF
            exact x_dp (ls2 := [some (xr 7 0), none, some (xr 9 j1)]) ⟨rfl, rfl, trivial⟩ (hr_73 j1 h7 hL hF)
      · replace hF := br_F hc hF
        refine x_aload_n (i := 0) (b := 45) dX7_readLand_44 rfl rfl rfl ?_
        refine x_iconst (n := 3) (b := 46) dX7_readLand_45 (by decide) rfl ?_
        refine x_aload_n (i := 0) (b := 47) dX7_readLand_46 rfl rfl rfl ?_
        refine x_getI (v := gI h5 7 0 12) (b := 50) fk_X7_44 dX7_readLand_47 (by decide) rfl rfl ?_
        obtain ⟨v8, h9, hq, hF⟩ := bd_e hF
        refine x_callV (as := [xi 3, xi (gI h5 7 0 12)]) (rest := []) (b := 53) (c_X7_wrong (d + 2) 3 (gI h5 7 0 12) h5 _ hL hq) dX7_readLand_50 cw_X7_149 ⟨_, _, rfl, Nat.le_of_ble_eq_true rfl⟩ rfl rfl (Nat.le_of_ble_eq_true rfl) ⟨Nat.le_refl _, Nat.le_refl _⟩ rfl (fun rv hh hp _ => ?_)
        obtain ⟨rfl, rfl, hL⟩ := hp
        obtain ⟨hs, hF⟩ := ck_e hF
        refine x_zreturn dX7_readLand_53 rfl ⟨Nat.le_refl _, Nat.le_refl _⟩ hs ?_
        cases hF
        exact ⟨rfl, rfl, hL⟩
    · replace hF := br_T hc hF
      refine x_iconst (n := 0) (b := 32) dX7_readLand_31 (by decide) rfl ?_
      refine x_zreturn dX7_readLand_32 rfl ⟨Nat.le_refl _, Nat.le_refl _⟩ (by decide) ?_
      cases hF
      exact ⟨rfl, rfl, hL⟩
  · replace hF := br_F hc hF
    refine x_aload_n (i := 0) (b := 18) dX7_readLand_17 rfl rfl rfl ?_
    refine x_iconst (n := 2) (b := 19) dX7_readLand_18 (by decide) rfl ?_
    refine x_iload_n (i := 1) (b := 20) dX7_readLand_19 rfl rfl rfl ?_
    obtain ⟨v10, h11, hq, hF⟩ := bd_e hF
    refine x_callV (as := [xi 2, xi x1]) (rest := []) (b := 23) (c_X7_wrong (d + 2) 2 x1 h _ hL hq) dX7_readLand_20 cw_X7_149 ⟨_, _, rfl, Nat.le_of_ble_eq_true rfl⟩ rfl rfl (Nat.le_of_ble_eq_true rfl) ⟨Nat.le_refl _, Nat.le_refl _⟩ rfl (fun rv hh hp _ => ?_)
    obtain ⟨rfl, rfl, hL⟩ := hp
    obtain ⟨hs, hF⟩ := ck_e hF
    refine x_zreturn dX7_readLand_23 rfl ⟨Nat.le_refl _, Nat.le_refl _⟩ hs ?_
    cases hF
    exact ⟨rfl, rfl, hL⟩
set_option maxHeartbeats 4000000 in
set_option maxRecDepth 100000 in
theorem t_X7_readLand_1 (E : xE) (d : Nat) (rec : Rk) (r : Int × Hp) (hr_92 : ∀ (x2 : Int) (h : Hp), Lay h → rec 2 [x2] h = some r → X E mX7_readLand (d + 4) (0, 0) (0, 0) 92 [some (xr 7 0), none, some (xr 9 x2)] [] h (PoI r)) (hr_103 : ∀ (h : Hp), Lay h → rec 3 [] h = some r → X E mX7_readLand (d + 4) (0, 0) (0, 0) 103 [some (xr 7 0), none, none] [] h (PoI r)) (x2 : Int) (h : Hp) (hL : Lay h) (hF : b_X7_readLand_1 rec x2 h = some r) : X E mX7_readLand (d + 4) (0, 0) (0, 0) 73 [some (xr 7 0), none, some (xr 9 x2)] [] h (PoI r) := by
  unfold b_X7_readLand_1 at hF
  refine x_aload_n (i := 0) (b := 74) dX7_readLand_73 rfl rfl rfl ?_
  refine x_iconst (n := 3) (b := 75) dX7_readLand_74 (by decide) rfl ?_
  obtain ⟨v1, h2, hq, hF⟩ := bd_e hF
  refine x_callV (as := [xi 3]) (rest := []) (b := 78) (c_X7_isTold (d + 2) 3 h _ hL hq) dX7_readLand_75 cw_X7_155 ⟨_, _, rfl, Nat.le_of_ble_eq_true rfl⟩ rfl rfl (Nat.le_of_ble_eq_true rfl) ⟨Nat.le_refl _, Nat.le_refl _⟩ rfl (fun rv hh hp _ => ?_)
  obtain ⟨rfl, rfl, hL⟩ := hp
  refine x_if_eq (tgt := 92) (b := 81) dX7_readLand_78 (by decide) rfl (fun hc => ?_) (fun hc => ?_)
  · replace hF := br_T hc hF
    exact x_dp (ls2 := [some (xr 7 0), none, some (xr 9 x2)]) ⟨rfl, rfl, trivial⟩ (hr_92 x2 h2 hL hF)
  · replace hF := br_F hc hF
    refine x_aload_n (i := 2) (b := 82) dX7_readLand_81 rfl rfl rfl ?_
    refine x_getI (v := gI h2 9 x2 5) (b := 85) fk_X7_188 dX7_readLand_82 (by decide) rfl rfl ?_
    refine x_aload_n (i := 0) (b := 86) dX7_readLand_85 rfl rfl rfl ?_
    refine x_getI (v := gI h2 7 0 11) (b := 89) fk_X7_41 dX7_readLand_86 (by decide) rfl rfl ?_
    refine x_icmp_eq (tgt := 103) (b := 92) dX7_readLand_89 (by decide) rfl (fun hc => ?_) (fun hc => ?_)
    · replace hF := br_T hc hF
      exact x_dp (ls2 := [some (xr 7 0), none, none]) ⟨rfl, trivial⟩ (hr_103  h2 hL hF)
    · replace hF := br_F hc hF
      exact x_dp (ls2 := [some (xr 7 0), none, some (xr 9 x2)]) ⟨rfl, rfl, trivial⟩ (hr_92 x2 h2 hL hF)
set_option maxHeartbeats 4000000 in
set_option maxRecDepth 100000 in
theorem t_X7_readLand_2 (E : xE) (d : Nat) (rec : Rk) (r : Int × Hp) (hr_103 : ∀ (h : Hp), Lay h → rec 3 [] h = some r → X E mX7_readLand (d + 4) (0, 0) (0, 0) 103 [some (xr 7 0), none, none] [] h (PoI r)) (x2 : Int) (h : Hp) (hL : Lay h) (hF : b_X7_readLand_2 rec x2 h = some r) : X E mX7_readLand (d + 4) (0, 0) (0, 0) 92 [some (xr 7 0), none, some (xr 9 x2)] [] h (PoI r) := by
  unfold b_X7_readLand_2 at hF
  refine x_aload_n (i := 2) (b := 93) dX7_readLand_92 rfl rfl rfl ?_
  refine x_aload_n (i := 0) (b := 94) dX7_readLand_93 rfl rfl rfl ?_
  refine x_getI (v := gI h 7 0 11) (b := 97) fk_X7_41 dX7_readLand_94 (by decide) rfl rfl ?_
  obtain ⟨v1, h2, hq, hF⟩ := bd_e hF
  refine x_callV (as := [xi (gI h 7 0 11)]) (rest := []) (b := 100) (c_X9_isIsle (d + 2) x2 (gI h 7 0 11) h _ hL hq) dX7_readLand_97 cw_X7_191 ⟨_, _, rfl, Nat.le_of_ble_eq_true rfl⟩ rfl rfl (Nat.le_of_ble_eq_true rfl) ⟨Nat.le_refl _, Nat.le_refl _⟩ rfl (fun rv hh hp _ => ?_)
  obtain ⟨rfl, rfl, hL⟩ := hp
  refine x_if_eq (tgt := 113) (b := 103) dX7_readLand_100 (by decide) rfl (fun hc => ?_) (fun hc => ?_)
  · replace hF := br_T hc hF
    refine x_aload_n (i := 0) (b := 114) dX7_readLand_113 rfl rfl rfl ?_
    refine x_dup (b := 115) dX7_readLand_114 rfl rfl ?_
    refine x_getI (v := gI h2 7 0 13) (b := 118) fk_X7_47 dX7_readLand_115 (by decide) rfl rfl ?_
    refine x_iconst (n := 2) (b := 119) dX7_readLand_118 (by decide) rfl ?_
    refine x_ior (b := 120) dX7_readLand_119 rfl ?_
    refine x_putI (b := 123) fk_X7_47 dX7_readLand_120 rfl rfl 13 rfl ?_
    obtain ⟨h3, e_h3, hF⟩ := lt_e hF
    refine x_hp (h2 := h3) e_h3 ?_
    replace hL : Lay h3 := by rw [← e_h3]; exact hL
    refine x_aload_n (i := 2) (b := 124) dX7_readLand_123 rfl rfl rfl ?_
    refine x_dup (b := 125) dX7_readLand_124 rfl rfl ?_
    refine x_getJ (v := gI h3 9 x2 2) (b := 128) fk_X7_194 dX7_readLand_125 rfl rfl rfl ?_
    refine x_lconst (z := 1) (b := 129) dX7_readLand_128 rfl (by decide) rfl ?_
    refine x_aload_n (i := 0) (b := 130) dX7_readLand_129 rfl rfl rfl ?_
    refine x_getI (v := gI h3 7 0 11) (b := 133) fk_X7_41 dX7_readLand_130 (by decide) rfl rfl ?_
    refine x_lshl (b := 134) dX7_readLand_133 rfl ?_
    refine x_lor (b := 135) dX7_readLand_134 rfl ?_
    refine x_putJ (b := 138) fk_X7_194 dX7_readLand_135 rfl rfl 2 rfl ?_
    obtain ⟨h4, e_h4, hF⟩ := lt_e hF
    refine x_hp (h2 := h4) e_h4 ?_
    replace hL : Lay h4 := by rw [← e_h4]; exact hL
    refine x_aload_n (i := 2) (b := 139) dX7_readLand_138 rfl rfl rfl ?_
    refine x_dup (b := 140) dX7_readLand_139 rfl rfl ?_
    refine x_getI (v := gI h4 9 x2 3) (b := 143) fk_X7_182 dX7_readLand_140 (by decide) rfl rfl ?_
    refine x_iconst (n := 1) (b := 144) dX7_readLand_143 (by decide) rfl ?_
    obtain ⟨hs, hF⟩ := ck_e hF
    refine x_iadd (b := 145) dX7_readLand_144 hs rfl ?_
    refine x_putI (b := 148) fk_X7_182 dX7_readLand_145 rfl rfl 3 rfl ?_
    obtain ⟨h5, e_h5, hF⟩ := lt_e hF
    refine x_hp (h2 := h5) e_h5 ?_
    replace hL : Lay h5 := by rw [← e_h5]; exact hL
    refine x_iconst (n := 1) (b := 149) dX7_readLand_148 (by decide) rfl ?_
    refine x_zreturn dX7_readLand_149 rfl ⟨Nat.le_refl _, Nat.le_refl _⟩ (by decide) ?_
    cases hF
    exact ⟨rfl, rfl, hL⟩
  · replace hF := br_F hc hF
    exact x_dp (ls2 := [some (xr 7 0), none, none]) ⟨rfl, trivial⟩ (hr_103  h2 hL hF)
set_option maxHeartbeats 4000000 in
set_option maxRecDepth 100000 in
theorem t_X7_readLand_3 (E : xE) (d : Nat) (rec : Rk) (r : Int × Hp) (h : Hp) (hL : Lay h) (hF : b_X7_readLand_3 rec  h = some r) : X E mX7_readLand (d + 4) (0, 0) (0, 0) 103 [some (xr 7 0), none, none] [] h (PoI r) := by
  unfold b_X7_readLand_3 at hF
  refine x_aload_n (i := 0) (b := 104) dX7_readLand_103 rfl rfl rfl ?_
  refine x_iconst (n := 5) (b := 105) dX7_readLand_104 (by decide) rfl ?_
  refine x_aload_n (i := 0) (b := 106) dX7_readLand_105 rfl rfl rfl ?_
  refine x_getI (v := gI h 7 0 12) (b := 109) fk_X7_44 dX7_readLand_106 (by decide) rfl rfl ?_
  obtain ⟨v1, h2, hq, hF⟩ := bd_e hF
  refine x_callV (as := [xi 5, xi (gI h 7 0 12)]) (rest := []) (b := 112) (c_X7_wrong (d + 2) 5 (gI h 7 0 12) h _ hL hq) dX7_readLand_109 cw_X7_149 ⟨_, _, rfl, Nat.le_of_ble_eq_true rfl⟩ rfl rfl (Nat.le_of_ble_eq_true rfl) ⟨Nat.le_refl _, Nat.le_refl _⟩ rfl (fun rv hh hp _ => ?_)
  obtain ⟨rfl, rfl, hL⟩ := hp
  obtain ⟨hs, hF⟩ := ck_e hF
  refine x_zreturn dX7_readLand_112 rfl ⟨Nat.le_refl _, Nat.le_refl _⟩ hs ?_
  cases hF
  exact ⟨rfl, rfl, hL⟩
set_option maxHeartbeats 4000000 in
set_option maxRecDepth 100000 in
theorem u_X7_readLand (E : xE) (d : Nat) (r : Int × Hp) : ∀ n : Nat, (∀ (x1 : Int) (h : Hp), Lay h → g_X7_readLand n 0 [x1] h = some r → X E mX7_readLand (d + 4) (0, 0) (0, 0) 0 [some (xr 7 0), some (xi x1), none] [] h (PoI r)) ∧ (∀ (x2 : Int) (h : Hp), Lay h → g_X7_readLand n 1 [x2] h = some r → X E mX7_readLand (d + 4) (0, 0) (0, 0) 73 [some (xr 7 0), none, some (xr 9 x2)] [] h (PoI r)) ∧ (∀ (x2 : Int) (h : Hp), Lay h → g_X7_readLand n 2 [x2] h = some r → X E mX7_readLand (d + 4) (0, 0) (0, 0) 92 [some (xr 7 0), none, some (xr 9 x2)] [] h (PoI r)) ∧ (∀ (h : Hp), Lay h → g_X7_readLand n 3 [] h = some r → X E mX7_readLand (d + 4) (0, 0) (0, 0) 103 [some (xr 7 0), none, none] [] h (PoI r)) := by
  intro n
  induction n with
  | zero => exact ⟨fun _ _ _ hF => no_e (r := r) hF, fun _ _ _ hF => no_e (r := r) hF, fun _ _ _ hF => no_e (r := r) hF, fun _ _ hF => no_e (r := r) hF⟩
  | succ n ih => exact ⟨fun x1 h hL hF => t_X7_readLand_0 E d (g_X7_readLand n) r ih.2.1 ih.2.2.2 x1 h hL hF, fun x2 h hL hF => t_X7_readLand_1 E d (g_X7_readLand n) r ih.2.2.1 ih.2.2.2 x2 h hL hF, fun x2 h hL hF => t_X7_readLand_2 E d (g_X7_readLand n) r ih.2.2.2 x2 h hL hF, fun h hL hF => t_X7_readLand_3 E d (g_X7_readLand n) r   h hL hF⟩
theorem c_X7_readLand (d : Nat) (x1 : Int) (h : Hp) (r : Int × Hp) (hL : Lay h) (hF : f_X7_readLand x1 h = some r) : Sp mX7_readLand (d + 4) (0, 0) [xr 7 0, xi x1] h (PoI r) :=
  sp_of (by decide) rfl (Nat.le_of_ble_eq_true rfl) (ls := [some (xr 7 0), some (xi x1), none]) rfl (fun E _ => (u_X7_readLand E d r FU).1 x1 h hL hF)
theorem dX7_readLoses_0 : decode cX7_readLoses 0 = .ok (.aload_n 0, 1) := by decide +kernel
theorem dX7_readLoses_1 : decode cX7_readLoses 1 = .ok (.iconst 1, 1) := by decide +kernel
theorem dX7_readLoses_2 : decode cX7_readLoses 2 = .ok (.bipush 99, 2) := by decide +kernel
theorem dX7_readLoses_4 : decode cX7_readLoses 4 = .ok (.invokevirtual 167, 3) := by decide +kernel
theorem dX7_readLoses_7 : decode cX7_readLoses 7 = .ok (.ifCond .ne 5, 3) := by decide +kernel
theorem dX7_readLoses_10 : decode cX7_readLoses 10 = .ok (.iconst 0, 1) := by decide +kernel
theorem dX7_readLoses_11 : decode cX7_readLoses 11 = .ok (.ireturn, 1) := by decide +kernel
theorem dX7_readLoses_12 : decode cX7_readLoses 12 = .ok (.aload_n 1, 1) := by decide +kernel
theorem dX7_readLoses_13 : decode cX7_readLoses 13 = .ok (.aload_n 0, 1) := by decide +kernel
theorem dX7_readLoses_14 : decode cX7_readLoses 14 = .ok (.getfield 41, 3) := by decide +kernel
theorem dX7_readLoses_17 : decode cX7_readLoses 17 = .ok (.putfield 310, 3) := by decide +kernel
theorem dX7_readLoses_20 : decode cX7_readLoses 20 = .ok (.iconst 1, 1) := by decide +kernel
theorem dX7_readLoses_21 : decode cX7_readLoses 21 = .ok (.ireturn, 1) := by decide +kernel
noncomputable def b_X7_readLoses_0 (rec : Rk) (x1 : Int) (h : Hp) : Option (Int × Hp) :=
  bd (f_X7_readNumber 1 99 h) fun v1 h2 =>
  if v1 = 0 then (
    some (0, h2)
  ) else (
    lt (sI h2 4 x1 7 (gI h2 7 0 11)) fun h3 =>
    some (1, h3)
  )
noncomputable def g_X7_readLoses (n : Nat) : Rk := Nat.rec (motive := fun _ => Rk) (fun _ _ _ => none) (fun _ rec k l h => if k = 0 then b_X7_readLoses_0 rec (l.getD 0 0) h else none) n
noncomputable def f_X7_readLoses (x1 : Int) (h : Hp) : Option (Int × Hp) := g_X7_readLoses FU 0 [x1] h
set_option maxHeartbeats 4000000 in
set_option maxRecDepth 100000 in
theorem t_X7_readLoses_0 (E : xE) (d : Nat) (rec : Rk) (r : Int × Hp) (x1 : Int) (h : Hp) (hL : Lay h) (hF : b_X7_readLoses_0 rec x1 h = some r) : X E mX7_readLoses (d + 3) (0, 0) (0, 0) 0 [some (xr 7 0), some (xr 4 x1)] [] h (PoI r) := by
  unfold b_X7_readLoses_0 at hF
  refine x_aload_n (i := 0) (b := 1) dX7_readLoses_0 rfl rfl rfl ?_
  refine x_iconst (n := 1) (b := 2) dX7_readLoses_1 (by decide) rfl ?_
  refine x_bipush (n := 99) (b := 4) dX7_readLoses_2 (by decide) rfl ?_
  obtain ⟨v1, h2, hq, hF⟩ := bd_e hF
  refine x_callV (as := [xi 1, xi 99]) (rest := []) (b := 7) (c_X7_readNumber d 1 99 h _ hL hq) dX7_readLoses_4 cw_X7_167 ⟨_, _, rfl, Nat.le_of_ble_eq_true rfl⟩ rfl rfl (Nat.le_of_ble_eq_true rfl) ⟨Nat.le_refl _, Nat.le_refl _⟩ rfl (fun rv hh hp _ => ?_)
  obtain ⟨rfl, rfl, hL⟩ := hp
  refine x_if_ne (tgt := 12) (b := 10) dX7_readLoses_7 (by decide) rfl (fun hc => ?_) (fun hc => ?_)
  · replace hF := br_F hc hF
    refine x_aload_n (i := 1) (b := 13) dX7_readLoses_12 rfl rfl rfl ?_
    refine x_aload_n (i := 0) (b := 14) dX7_readLoses_13 rfl rfl rfl ?_
    refine x_getI (v := gI h2 7 0 11) (b := 17) fk_X7_41 dX7_readLoses_14 (by decide) rfl rfl ?_
    refine x_putI (b := 20) fk_X7_310 dX7_readLoses_17 rfl rfl 7 rfl ?_
    obtain ⟨h3, e_h3, hF⟩ := lt_e hF
    refine x_hp (h2 := h3) e_h3 ?_
    replace hL : Lay h3 := by rw [← e_h3]; exact hL
    refine x_iconst (n := 1) (b := 21) dX7_readLoses_20 (by decide) rfl ?_
    refine x_zreturn dX7_readLoses_21 rfl ⟨Nat.le_refl _, Nat.le_refl _⟩ (by decide) ?_
    cases hF
    exact ⟨rfl, rfl, hL⟩
  · replace hF := br_T hc hF
    refine x_iconst (n := 0) (b := 11) dX7_readLoses_10 (by decide) rfl ?_
    refine x_zreturn dX7_readLoses_11 rfl ⟨Nat.le_refl _, Nat.le_refl _⟩ (by decide) ?_
    cases hF
    exact ⟨rfl, rfl, hL⟩
set_option maxHeartbeats 4000000 in
set_option maxRecDepth 100000 in
theorem u_X7_readLoses (E : xE) (d : Nat) (r : Int × Hp) : ∀ n : Nat, (∀ (x1 : Int) (h : Hp), Lay h → g_X7_readLoses n 0 [x1] h = some r → X E mX7_readLoses (d + 3) (0, 0) (0, 0) 0 [some (xr 7 0), some (xr 4 x1)] [] h (PoI r)) := by
  intro n
  induction n with
  | zero => exact fun _ _ _ hF => no_e (r := r) hF
  | succ n ih => exact fun x1 h hL hF => t_X7_readLoses_0 E d (g_X7_readLoses n) r  x1 h hL hF
theorem c_X7_readLoses (d : Nat) (x1 : Int) (h : Hp) (r : Int × Hp) (hL : Lay h) (hF : f_X7_readLoses x1 h = some r) : Sp mX7_readLoses (d + 3) (0, 0) [xr 7 0, xr 4 x1] h (PoI r) :=
  sp_of (by decide) rfl (Nat.le_of_ble_eq_true rfl) (ls := [some (xr 7 0), some (xr 4 x1)]) rfl (fun E _ => (u_X7_readLoses E d r FU) x1 h hL hF)
theorem dX7_readRest_0 : decode cX7_readRest 0 = .ok (.iconst 0, 1) := by decide +kernel
theorem dX7_readRest_1 : decode cX7_readRest 1 = .ok (.istore_n 2, 1) := by decide +kernel
theorem dX7_readRest_2 : decode cX7_readRest 2 = .ok (.iconst 0, 1) := by decide +kernel
theorem dX7_readRest_3 : decode cX7_readRest 3 = .ok (.istore_n 3, 1) := by decide +kernel
theorem dX7_readRest_4 : decode cX7_readRest 4 = .ok (.iload_n 3, 1) := by decide +kernel
theorem dX7_readRest_5 : decode cX7_readRest 5 = .ok (.iconst 5, 1) := by decide +kernel
theorem dX7_readRest_6 : decode cX7_readRest 6 = .ok (.if_icmp .ge 114, 3) := by decide +kernel
theorem dX7_readRest_9 : decode cX7_readRest 9 = .ok (.aload_n 0, 1) := by decide +kernel
theorem dX7_readRest_10 : decode cX7_readRest 10 = .ok (.getfield 35, 3) := by decide +kernel
theorem dX7_readRest_13 : decode cX7_readRest 13 = .ok (.bipush 13, 2) := by decide +kernel
theorem dX7_readRest_15 : decode cX7_readRest 15 = .ok (.if_icmp .lt 105, 3) := by decide +kernel
theorem dX7_readRest_18 : decode cX7_readRest 18 = .ok (.aload_n 0, 1) := by decide +kernel
theorem dX7_readRest_19 : decode cX7_readRest 19 = .ok (.getfield 35, 3) := by decide +kernel
theorem dX7_readRest_22 : decode cX7_readRest 22 = .ok (.bipush 16, 2) := by decide +kernel
theorem dX7_readRest_24 : decode cX7_readRest 24 = .ok (.if_icmp .gt 96, 3) := by decide +kernel
theorem dX7_readRest_27 : decode cX7_readRest 27 = .ok (.iload_n 2, 1) := by decide +kernel
theorem dX7_readRest_28 : decode cX7_readRest 28 = .ok (.aload_n 0, 1) := by decide +kernel
theorem dX7_readRest_29 : decode cX7_readRest 29 = .ok (.getfield 35, 3) := by decide +kernel
theorem dX7_readRest_32 : decode cX7_readRest 32 = .ok (.ishr, 1) := by decide +kernel
theorem dX7_readRest_33 : decode cX7_readRest 33 = .ok (.iconst 1, 1) := by decide +kernel
theorem dX7_readRest_34 : decode cX7_readRest 34 = .ok (.iand, 1) := by decide +kernel
theorem dX7_readRest_35 : decode cX7_readRest 35 = .ok (.iconst 1, 1) := by decide +kernel
theorem dX7_readRest_36 : decode cX7_readRest 36 = .ok (.if_icmp .ne 13, 3) := by decide +kernel
theorem dX7_readRest_39 : decode cX7_readRest 39 = .ok (.aload_n 0, 1) := by decide +kernel
theorem dX7_readRest_40 : decode cX7_readRest 40 = .ok (.iconst 3, 1) := by decide +kernel
theorem dX7_readRest_41 : decode cX7_readRest 41 = .ok (.aload_n 0, 1) := by decide +kernel
theorem dX7_readRest_42 : decode cX7_readRest 42 = .ok (.getfield 29, 3) := by decide +kernel
theorem dX7_readRest_45 : decode cX7_readRest 45 = .ok (.invokevirtual 149, 3) := by decide +kernel
theorem dX7_readRest_48 : decode cX7_readRest 48 = .ok (.ireturn, 1) := by decide +kernel
theorem dX7_readRest_49 : decode cX7_readRest 49 = .ok (.iload_n 2, 1) := by decide +kernel
theorem dX7_readRest_50 : decode cX7_readRest 50 = .ok (.iconst 1, 1) := by decide +kernel
theorem dX7_readRest_51 : decode cX7_readRest 51 = .ok (.aload_n 0, 1) := by decide +kernel
theorem dX7_readRest_52 : decode cX7_readRest 52 = .ok (.getfield 35, 3) := by decide +kernel
theorem dX7_readRest_55 : decode cX7_readRest 55 = .ok (.ishl, 1) := by decide +kernel
theorem dX7_readRest_56 : decode cX7_readRest 56 = .ok (.ior, 1) := by decide +kernel
theorem dX7_readRest_57 : decode cX7_readRest 57 = .ok (.istore_n 2, 1) := by decide +kernel
theorem dX7_readRest_58 : decode cX7_readRest 58 = .ok (.aload_n 0, 1) := by decide +kernel
theorem dX7_readRest_59 : decode cX7_readRest 59 = .ok (.getfield 35, 3) := by decide +kernel
theorem dX7_readRest_62 : decode cX7_readRest 62 = .ok (.istore 4, 2) := by decide +kernel
theorem dX7_readRest_64 : decode cX7_readRest 64 = .ok (.aload_n 0, 1) := by decide +kernel
theorem dX7_readRest_65 : decode cX7_readRest 65 = .ok (.invokevirtual 89, 3) := by decide +kernel
theorem dX7_readRest_68 : decode cX7_readRest 68 = .ok (.iload 4, 2) := by decide +kernel
theorem dX7_readRest_70 : decode cX7_readRest 70 = .ok (.bipush 15, 2) := by decide +kernel
theorem dX7_readRest_72 : decode cX7_readRest 72 = .ok (.if_icmp .ne 11, 3) := by decide +kernel
theorem dX7_readRest_75 : decode cX7_readRest 75 = .ok (.aload_n 0, 1) := by decide +kernel
theorem dX7_readRest_76 : decode cX7_readRest 76 = .ok (.aload_n 1, 1) := by decide +kernel
theorem dX7_readRest_77 : decode cX7_readRest 77 = .ok (.invokevirtual 288, 3) := by decide +kernel
theorem dX7_readRest_80 : decode cX7_readRest 80 = .ok (.goto 25, 3) := by decide +kernel
theorem dX7_readRest_83 : decode cX7_readRest 83 = .ok (.iload 4, 2) := by decide +kernel
theorem dX7_readRest_85 : decode cX7_readRest 85 = .ok (.bipush 16, 2) := by decide +kernel
theorem dX7_readRest_87 : decode cX7_readRest 87 = .ok (.if_icmp .ne 11, 3) := by decide +kernel
theorem dX7_readRest_90 : decode cX7_readRest 90 = .ok (.aload_n 0, 1) := by decide +kernel
theorem dX7_readRest_91 : decode cX7_readRest 91 = .ok (.aload_n 1, 1) := by decide +kernel
theorem dX7_readRest_92 : decode cX7_readRest 92 = .ok (.invokevirtual 291, 3) := by decide +kernel
theorem dX7_readRest_95 : decode cX7_readRest 95 = .ok (.goto 10, 3) := by decide +kernel
theorem dX7_readRest_98 : decode cX7_readRest 98 = .ok (.aload_n 0, 1) := by decide +kernel
theorem dX7_readRest_99 : decode cX7_readRest 99 = .ok (.aload_n 1, 1) := by decide +kernel
theorem dX7_readRest_100 : decode cX7_readRest 100 = .ok (.iload 4, 2) := by decide +kernel
theorem dX7_readRest_102 : decode cX7_readRest 102 = .ok (.invokevirtual 294, 3) := by decide +kernel
theorem dX7_readRest_105 : decode cX7_readRest 105 = .ok (.istore 5, 2) := by decide +kernel
theorem dX7_readRest_107 : decode cX7_readRest 107 = .ok (.iload 5, 2) := by decide +kernel
theorem dX7_readRest_109 : decode cX7_readRest 109 = .ok (.ifCond .ne 5, 3) := by decide +kernel
theorem dX7_readRest_112 : decode cX7_readRest 112 = .ok (.iconst 0, 1) := by decide +kernel
theorem dX7_readRest_113 : decode cX7_readRest 113 = .ok (.ireturn, 1) := by decide +kernel
theorem dX7_readRest_114 : decode cX7_readRest 114 = .ok (.iinc 3 1, 3) := by decide +kernel
theorem dX7_readRest_117 : decode cX7_readRest 117 = .ok (.goto (-113), 3) := by decide +kernel
theorem dX7_readRest_120 : decode cX7_readRest 120 = .ok (.iconst 1, 1) := by decide +kernel
theorem dX7_readRest_121 : decode cX7_readRest 121 = .ok (.ireturn, 1) := by decide +kernel
noncomputable def b_X7_readRest_0 (rec : Rk) (x1 : Int) (h : Hp) : Option (Int × Hp) :=
  rec 1 [x1, 0, 0] h
noncomputable def b_X7_readRest_1 (rec : Rk) (x1 x2 x3 : Int) (h : Hp) : Option (Int × Hp) :=
  if 5 ≤ x3 then (
    some (1, h)
  ) else (
    if (gI h 7 0 9) < 13 then (
      some (1, h)
    ) else (
      if 16 < (gI h 7 0 9) then (
        some (1, h)
      ) else (
        if (band (bshr x2 (gI h 7 0 9)) 1) = 1 then (
          bd (f_X7_wrong 3 (gI h 7 0 7) h) fun v1 h2 =>
          ck (0 ≤ v1 ∧ v1 < 2) <|
          some (v1, h2)
        ) else (
          lt (bor x2 (bshl 1 (gI h 7 0 9))) fun z3 =>
          lt (gI h 7 0 9) fun z4 =>
          bd (f_X7_advance h) fun v5 h6 =>
          if z4 = 15 then (
            bd (f_X7_readSick x1 h6) fun v7 h8 =>
            rec 2 [x1, z3, x3, v7] h8
          ) else (
            if z4 = 16 then (
              bd (f_X7_readLoses x1 h6) fun v9 h10 =>
              rec 2 [x1, z3, x3, v9] h10
            ) else (
              bd (f_X7_readStay x1 z4 h6) fun v11 h12 =>
              rec 2 [x1, z3, x3, v11] h12
            )
          )
        )
      )
    )
  )
noncomputable def b_X7_readRest_2 (rec : Rk) (x1 x2 x3 y0 : Int) (h : Hp) : Option (Int × Hp) :=
  if y0 = 0 then (
    some (0, h)
  ) else (
    ck (-2147483648 ≤ x3 + 1 ∧ x3 + 1 < 2147483648) <|
    rec 1 [x1, x2, x3 + 1] h
  )
noncomputable def g_X7_readRest (n : Nat) : Rk := Nat.rec (motive := fun _ => Rk) (fun _ _ _ => none) (fun _ rec k l h => if k = 0 then b_X7_readRest_0 rec (l.getD 0 0) h else if k = 1 then b_X7_readRest_1 rec (l.getD 0 0) (l.getD 1 0) (l.getD 2 0) h else if k = 2 then b_X7_readRest_2 rec (l.getD 0 0) (l.getD 1 0) (l.getD 2 0) (l.getD 3 0) h else none) n
noncomputable def f_X7_readRest (x1 : Int) (h : Hp) : Option (Int × Hp) := g_X7_readRest FU 0 [x1] h
set_option maxHeartbeats 4000000 in
set_option maxRecDepth 100000 in
theorem t_X7_readRest_0 (E : xE) (d : Nat) (rec : Rk) (r : Int × Hp) (hr_4 : ∀ (x1 x2 x3 : Int) (h : Hp), Lay h → rec 1 [x1, x2, x3] h = some r → X E mX7_readRest (d + 4) (0, 0) (0, 0) 4 [some (xr 7 0), some (xr 4 x1), some (xi x2), some (xi x3), none, none] [] h (PoI r)) (x1 : Int) (h : Hp) (hL : Lay h) (hF : b_X7_readRest_0 rec x1 h = some r) : X E mX7_readRest (d + 4) (0, 0) (0, 0) 0 [some (xr 7 0), some (xr 4 x1), none, none, none, none] [] h (PoI r) := by
  unfold b_X7_readRest_0 at hF
  refine x_iconst (n := 0) (b := 1) dX7_readRest_0 (by decide) rfl ?_
  refine x_istore_n (i := 2) (b := 2) (ls2 := [some (xr 7 0), some (xr 4 x1), some (xi 0), none, none, none]) dX7_readRest_1 rfl (Nat.le_of_ble_eq_true rfl) rfl rfl ?_
  refine x_iconst (n := 0) (b := 3) dX7_readRest_2 (by decide) rfl ?_
  refine x_istore_n (i := 3) (b := 4) (ls2 := [some (xr 7 0), some (xr 4 x1), some (xi 0), some (xi 0), none, none]) dX7_readRest_3 rfl (Nat.le_of_ble_eq_true rfl) rfl rfl ?_
  exact x_dp (ls2 := [some (xr 7 0), some (xr 4 x1), some (xi 0), some (xi 0), none, none]) ⟨rfl, rfl, rfl, rfl, trivial⟩ (hr_4 x1 0 0 h hL hF)
set_option maxHeartbeats 4000000 in
set_option maxRecDepth 100000 in
theorem t_X7_readRest_1 (E : xE) (d : Nat) (rec : Rk) (r : Int × Hp) (hr_105 : ∀ (x1 x2 x3 y0 : Int) (h : Hp), Lay h → rec 2 [x1, x2, x3, y0] h = some r → X E mX7_readRest (d + 4) (0, 0) (0, 0) 105 [some (xr 7 0), some (xr 4 x1), some (xi x2), some (xi x3), none, none] [xi y0] h (PoI r)) (x1 x2 x3 : Int) (h : Hp) (hL : Lay h) (hF : b_X7_readRest_1 rec x1 x2 x3 h = some r) : X E mX7_readRest (d + 4) (0, 0) (0, 0) 4 [some (xr 7 0), some (xr 4 x1), some (xi x2), some (xi x3), none, none] [] h (PoI r) := by
  unfold b_X7_readRest_1 at hF
  refine x_iload_n (i := 3) (b := 5) dX7_readRest_4 rfl rfl rfl ?_
  refine x_iconst (n := 5) (b := 6) dX7_readRest_5 (by decide) rfl ?_
  refine x_icmp_ge (tgt := 120) (b := 9) dX7_readRest_6 (by decide) rfl (fun hc => ?_) (fun hc => ?_)
  · replace hF := br_T hc hF
    refine x_iconst (n := 1) (b := 121) dX7_readRest_120 (by decide) rfl ?_
    refine x_zreturn dX7_readRest_121 rfl ⟨Nat.le_refl _, Nat.le_refl _⟩ (by decide) ?_
    cases hF
    exact ⟨rfl, rfl, hL⟩
  · replace hF := br_F hc hF
    refine x_aload_n (i := 0) (b := 10) dX7_readRest_9 rfl rfl rfl ?_
    refine x_getI (v := gI h 7 0 9) (b := 13) fk_X7_35 dX7_readRest_10 (by decide) rfl rfl ?_
    refine x_bipush (n := 13) (b := 15) dX7_readRest_13 (by decide) rfl ?_
    refine x_icmp_lt (tgt := 120) (b := 18) dX7_readRest_15 (by decide) rfl (fun hc => ?_) (fun hc => ?_)
    · replace hF := br_T hc hF
      refine x_iconst (n := 1) (b := 121) dX7_readRest_120 (by decide) rfl ?_
      refine x_zreturn dX7_readRest_121 rfl ⟨Nat.le_refl _, Nat.le_refl _⟩ (by decide) ?_
      cases hF
      exact ⟨rfl, rfl, hL⟩
    · replace hF := br_F hc hF
      refine x_aload_n (i := 0) (b := 19) dX7_readRest_18 rfl rfl rfl ?_
      refine x_getI (v := gI h 7 0 9) (b := 22) fk_X7_35 dX7_readRest_19 (by decide) rfl rfl ?_
      refine x_bipush (n := 16) (b := 24) dX7_readRest_22 (by decide) rfl ?_
      refine x_icmp_gt (tgt := 120) (b := 27) dX7_readRest_24 (by decide) rfl (fun hc => ?_) (fun hc => ?_)
      · replace hF := br_T hc hF
        refine x_iconst (n := 1) (b := 121) dX7_readRest_120 (by decide) rfl ?_
        refine x_zreturn dX7_readRest_121 rfl ⟨Nat.le_refl _, Nat.le_refl _⟩ (by decide) ?_
        cases hF
        exact ⟨rfl, rfl, hL⟩
      · replace hF := br_F hc hF
        refine x_iload_n (i := 2) (b := 28) dX7_readRest_27 rfl rfl rfl ?_
        refine x_aload_n (i := 0) (b := 29) dX7_readRest_28 rfl rfl rfl ?_
        refine x_getI (v := gI h 7 0 9) (b := 32) fk_X7_35 dX7_readRest_29 (by decide) rfl rfl ?_
        refine x_ishr (b := 33) dX7_readRest_32 rfl ?_
        refine x_iconst (n := 1) (b := 34) dX7_readRest_33 (by decide) rfl ?_
        refine x_iand (b := 35) dX7_readRest_34 rfl ?_
        refine x_iconst (n := 1) (b := 36) dX7_readRest_35 (by decide) rfl ?_
        refine x_icmp_ne (tgt := 49) (b := 39) dX7_readRest_36 (by decide) rfl (fun hc => ?_) (fun hc => ?_)
        · replace hF := br_F hc hF
          refine x_iload_n (i := 2) (b := 50) dX7_readRest_49 rfl rfl rfl ?_
          refine x_iconst (n := 1) (b := 51) dX7_readRest_50 (by decide) rfl ?_
          refine x_aload_n (i := 0) (b := 52) dX7_readRest_51 rfl rfl rfl ?_
          refine x_getI (v := gI h 7 0 9) (b := 55) fk_X7_35 dX7_readRest_52 (by decide) rfl rfl ?_
          refine x_ishl (b := 56) dX7_readRest_55 rfl ?_
          refine x_ior (b := 57) dX7_readRest_56 rfl ?_
          obtain ⟨z3, e_z3, hF⟩ := lt_e hF
          refine x_eq (y := z3) e_z3 ?_
          refine x_istore_n (i := 2) (b := 58) (ls2 := [some (xr 7 0), some (xr 4 x1), some (xi z3), some (xi x3), none, none]) dX7_readRest_57 rfl (Nat.le_of_ble_eq_true rfl) rfl rfl ?_
          refine x_aload_n (i := 0) (b := 59) dX7_readRest_58 rfl rfl rfl ?_
          refine x_getI (v := gI h 7 0 9) (b := 62) fk_X7_35 dX7_readRest_59 (by decide) rfl rfl ?_
          obtain ⟨z4, e_z4, hF⟩ := lt_e hF
          refine x_eq (y := z4) e_z4 ?_
          refine x_istore (i := 4) (b := 64) (ls2 := [some (xr 7 0), some (xr 4 x1), some (xi z3), some (xi x3), some (xi z4), none]) dX7_readRest_62 (Nat.le_of_ble_eq_true rfl) rfl rfl ?_
          refine x_aload_n (i := 0) (b := 65) dX7_readRest_64 rfl rfl rfl ?_
          obtain ⟨v5, h6, hq, hF⟩ := bd_e hF
          refine x_callV (as := []) (rest := []) (b := 68) (c_X7_advance (d + 2) h _ hL hq) dX7_readRest_65 cw_X7_89 ⟨_, _, rfl, Nat.le_of_ble_eq_true rfl⟩ rfl rfl (Nat.le_of_ble_eq_true rfl) ⟨Nat.le_refl _, Nat.le_refl _⟩ rfl (fun rv hh hp _ => ?_)
          obtain ⟨rfl, rfl, hL⟩ := hp
          refine x_iload (i := 4) (b := 70) dX7_readRest_68 rfl rfl ?_
          refine x_bipush (n := 15) (b := 72) dX7_readRest_70 (by decide) rfl ?_
          refine x_icmp_ne (tgt := 83) (b := 75) dX7_readRest_72 (by decide) rfl (fun hc => ?_) (fun hc => ?_)
          · replace hF := br_F hc hF
            refine x_iload (i := 4) (b := 85) dX7_readRest_83 rfl rfl ?_
            refine x_bipush (n := 16) (b := 87) dX7_readRest_85 (by decide) rfl ?_
            refine x_icmp_ne (tgt := 98) (b := 90) dX7_readRest_87 (by decide) rfl (fun hc => ?_) (fun hc => ?_)
            · replace hF := br_F hc hF
              refine x_aload_n (i := 0) (b := 99) dX7_readRest_98 rfl rfl rfl ?_
              refine x_aload_n (i := 1) (b := 100) dX7_readRest_99 rfl rfl rfl ?_
              refine x_iload (i := 4) (b := 102) dX7_readRest_100 rfl rfl ?_
              obtain ⟨v11, h12, hq, hF⟩ := bd_e hF
              refine x_callV (as := [xr 4 x1, xi z4]) (rest := []) (b := 105) (c_X7_readStay d x1 z4 h6 _ hL hq) dX7_readRest_102 cw_X7_294 ⟨_, _, rfl, Nat.le_of_ble_eq_true rfl⟩ rfl rfl (Nat.le_of_ble_eq_true rfl) ⟨Nat.le_refl _, Nat.le_refl _⟩ rfl (fun rv hh hp _ => ?_)
              obtain ⟨rfl, rfl, hL⟩ := hp
              exact x_dp (ls2 := [some (xr 7 0), some (xr 4 x1), some (xi z3), some (xi x3), none, none]) ⟨rfl, rfl, rfl, rfl, trivial⟩ (hr_105 x1 z3 x3 v11 h12 hL hF)
            · replace hF := br_T hc hF
              refine x_aload_n (i := 0) (b := 91) dX7_readRest_90 rfl rfl rfl ?_
              refine x_aload_n (i := 1) (b := 92) dX7_readRest_91 rfl rfl rfl ?_
              obtain ⟨v9, h10, hq, hF⟩ := bd_e hF
              refine x_callV (as := [xr 4 x1]) (rest := []) (b := 95) (c_X7_readLoses d x1 h6 _ hL hq) dX7_readRest_92 cw_X7_291 ⟨_, _, rfl, Nat.le_of_ble_eq_true rfl⟩ rfl rfl (Nat.le_of_ble_eq_true rfl) ⟨Nat.le_refl _, Nat.le_refl _⟩ rfl (fun rv hh hp _ => ?_)
              obtain ⟨rfl, rfl, hL⟩ := hp
              refine x_goto (tgt := 105) dX7_readRest_95 (by decide) ?_
              exact x_dp (ls2 := [some (xr 7 0), some (xr 4 x1), some (xi z3), some (xi x3), none, none]) ⟨rfl, rfl, rfl, rfl, trivial⟩ (hr_105 x1 z3 x3 v9 h10 hL hF)
          · replace hF := br_T hc hF
            refine x_aload_n (i := 0) (b := 76) dX7_readRest_75 rfl rfl rfl ?_
            refine x_aload_n (i := 1) (b := 77) dX7_readRest_76 rfl rfl rfl ?_
            obtain ⟨v7, h8, hq, hF⟩ := bd_e hF
            refine x_callV (as := [xr 4 x1]) (rest := []) (b := 80) (c_X7_readSick d x1 h6 _ hL hq) dX7_readRest_77 cw_X7_288 ⟨_, _, rfl, Nat.le_of_ble_eq_true rfl⟩ rfl rfl (Nat.le_of_ble_eq_true rfl) ⟨Nat.le_refl _, Nat.le_refl _⟩ rfl (fun rv hh hp _ => ?_)
            obtain ⟨rfl, rfl, hL⟩ := hp
            refine x_goto (tgt := 105) dX7_readRest_80 (by decide) ?_
            exact x_dp (ls2 := [some (xr 7 0), some (xr 4 x1), some (xi z3), some (xi x3), none, none]) ⟨rfl, rfl, rfl, rfl, trivial⟩ (hr_105 x1 z3 x3 v7 h8 hL hF)
        · replace hF := br_T hc hF
          refine x_aload_n (i := 0) (b := 40) dX7_readRest_39 rfl rfl rfl ?_
          refine x_iconst (n := 3) (b := 41) dX7_readRest_40 (by decide) rfl ?_
          refine x_aload_n (i := 0) (b := 42) dX7_readRest_41 rfl rfl rfl ?_
          refine x_getI (v := gI h 7 0 7) (b := 45) fk_X7_29 dX7_readRest_42 (by decide) rfl rfl ?_
          obtain ⟨v1, h2, hq, hF⟩ := bd_e hF
          refine x_callV (as := [xi 3, xi (gI h 7 0 7)]) (rest := []) (b := 48) (c_X7_wrong (d + 2) 3 (gI h 7 0 7) h _ hL hq) dX7_readRest_45 cw_X7_149 ⟨_, _, rfl, Nat.le_of_ble_eq_true rfl⟩ rfl rfl (Nat.le_of_ble_eq_true rfl) ⟨Nat.le_refl _, Nat.le_refl _⟩ rfl (fun rv hh hp _ => ?_)
          obtain ⟨rfl, rfl, hL⟩ := hp
          obtain ⟨hs, hF⟩ := ck_e hF
          refine x_zreturn dX7_readRest_48 rfl ⟨Nat.le_refl _, Nat.le_refl _⟩ hs ?_
          cases hF
          exact ⟨rfl, rfl, hL⟩
set_option maxHeartbeats 4000000 in
set_option maxRecDepth 100000 in
theorem t_X7_readRest_2 (E : xE) (d : Nat) (rec : Rk) (r : Int × Hp) (hr_4 : ∀ (x1 x2 x3 : Int) (h : Hp), Lay h → rec 1 [x1, x2, x3] h = some r → X E mX7_readRest (d + 4) (0, 0) (0, 0) 4 [some (xr 7 0), some (xr 4 x1), some (xi x2), some (xi x3), none, none] [] h (PoI r)) (x1 x2 x3 y0 : Int) (h : Hp) (hL : Lay h) (hF : b_X7_readRest_2 rec x1 x2 x3 y0 h = some r) : X E mX7_readRest (d + 4) (0, 0) (0, 0) 105 [some (xr 7 0), some (xr 4 x1), some (xi x2), some (xi x3), none, none] [xi y0] h (PoI r) := by
  unfold b_X7_readRest_2 at hF
  refine x_istore (i := 5) (b := 107) (ls2 := [some (xr 7 0), some (xr 4 x1), some (xi x2), some (xi x3), none, some (xi y0)]) dX7_readRest_105 (Nat.le_of_ble_eq_true rfl) rfl rfl ?_
  refine x_iload (i := 5) (b := 109) dX7_readRest_107 rfl rfl ?_
  refine x_if_ne (tgt := 114) (b := 112) dX7_readRest_109 (by decide) rfl (fun hc => ?_) (fun hc => ?_)
  · replace hF := br_F hc hF
    obtain ⟨hs, hF⟩ := ck_e hF
    refine x_iinc (i := 3) (b := 117) (ls2 := [some (xr 7 0), some (xr 4 x1), some (xi x2), some (xi (x3 + 1)), none, some (xi y0)]) dX7_readRest_114 rfl (Nat.le_of_ble_eq_true rfl) hs rfl rfl ?_
    refine x_goto (tgt := 4) dX7_readRest_117 (by decide) ?_
    exact x_dp (ls2 := [some (xr 7 0), some (xr 4 x1), some (xi x2), some (xi (x3 + 1)), none, none]) ⟨rfl, rfl, rfl, rfl, trivial⟩ (hr_4 x1 x2 (x3 + 1) h hL hF)
  · replace hF := br_T hc hF
    refine x_iconst (n := 0) (b := 113) dX7_readRest_112 (by decide) rfl ?_
    refine x_zreturn dX7_readRest_113 rfl ⟨Nat.le_refl _, Nat.le_refl _⟩ (by decide) ?_
    cases hF
    exact ⟨rfl, rfl, hL⟩
set_option maxHeartbeats 4000000 in
set_option maxRecDepth 100000 in
theorem u_X7_readRest (E : xE) (d : Nat) (r : Int × Hp) : ∀ n : Nat, (∀ (x1 : Int) (h : Hp), Lay h → g_X7_readRest n 0 [x1] h = some r → X E mX7_readRest (d + 4) (0, 0) (0, 0) 0 [some (xr 7 0), some (xr 4 x1), none, none, none, none] [] h (PoI r)) ∧ (∀ (x1 x2 x3 : Int) (h : Hp), Lay h → g_X7_readRest n 1 [x1, x2, x3] h = some r → X E mX7_readRest (d + 4) (0, 0) (0, 0) 4 [some (xr 7 0), some (xr 4 x1), some (xi x2), some (xi x3), none, none] [] h (PoI r)) ∧ (∀ (x1 x2 x3 y0 : Int) (h : Hp), Lay h → g_X7_readRest n 2 [x1, x2, x3, y0] h = some r → X E mX7_readRest (d + 4) (0, 0) (0, 0) 105 [some (xr 7 0), some (xr 4 x1), some (xi x2), some (xi x3), none, none] [xi y0] h (PoI r)) := by
  intro n
  induction n with
  | zero => exact ⟨fun _ _ _ hF => no_e (r := r) hF, fun _ _ _ _ _ hF => no_e (r := r) hF, fun _ _ _ _ _ _ hF => no_e (r := r) hF⟩
  | succ n ih => exact ⟨fun x1 h hL hF => t_X7_readRest_0 E d (g_X7_readRest n) r ih.2.1 x1 h hL hF, fun x1 x2 x3 h hL hF => t_X7_readRest_1 E d (g_X7_readRest n) r ih.2.2 x1 x2 x3 h hL hF, fun x1 x2 x3 y0 h hL hF => t_X7_readRest_2 E d (g_X7_readRest n) r ih.2.1 x1 x2 x3 y0 h hL hF⟩
theorem c_X7_readRest (d : Nat) (x1 : Int) (h : Hp) (r : Int × Hp) (hL : Lay h) (hF : f_X7_readRest x1 h = some r) : Sp mX7_readRest (d + 4) (0, 0) [xr 7 0, xr 4 x1] h (PoI r) :=
  sp_of (by decide) rfl (Nat.le_of_ble_eq_true rfl) (ls := [some (xr 7 0), some (xr 4 x1), none, none, none, none]) rfl (fun E _ => (u_X7_readRest E d r FU).1 x1 h hL hF)
theorem dX7_readSea_0 : decode cX7_readSea 0 = .ok (.aload_n 0, 1) := by decide +kernel
theorem dX7_readSea_1 : decode cX7_readSea 1 = .ok (.iconst 0, 1) := by decide +kernel
theorem dX7_readSea_2 : decode cX7_readSea 2 = .ok (.iload_n 1, 1) := by decide +kernel
theorem dX7_readSea_3 : decode cX7_readSea 3 = .ok (.invokevirtual 179, 3) := by decide +kernel
theorem dX7_readSea_6 : decode cX7_readSea 6 = .ok (.ifCond .ne 5, 3) := by decide +kernel
theorem dX7_readSea_9 : decode cX7_readSea 9 = .ok (.iconst 0, 1) := by decide +kernel
theorem dX7_readSea_10 : decode cX7_readSea 10 = .ok (.ireturn, 1) := by decide +kernel
theorem dX7_readSea_11 : decode cX7_readSea 11 = .ok (.aload_n 0, 1) := by decide +kernel
theorem dX7_readSea_12 : decode cX7_readSea 12 = .ok (.iconst 1, 1) := by decide +kernel
theorem dX7_readSea_13 : decode cX7_readSea 13 = .ok (.invokevirtual 155, 3) := by decide +kernel
theorem dX7_readSea_16 : decode cX7_readSea 16 = .ok (.ifCond .ne 27, 3) := by decide +kernel
theorem dX7_readSea_19 : decode cX7_readSea 19 = .ok (.aload_n 0, 1) := by decide +kernel
theorem dX7_readSea_20 : decode cX7_readSea 20 = .ok (.iconst 2, 1) := by decide +kernel
theorem dX7_readSea_21 : decode cX7_readSea 21 = .ok (.invokevirtual 155, 3) := by decide +kernel
theorem dX7_readSea_24 : decode cX7_readSea 24 = .ok (.ifCond .ne 19, 3) := by decide +kernel
theorem dX7_readSea_27 : decode cX7_readSea 27 = .ok (.aload_n 0, 1) := by decide +kernel
theorem dX7_readSea_28 : decode cX7_readSea 28 = .ok (.iconst 3, 1) := by decide +kernel
theorem dX7_readSea_29 : decode cX7_readSea 29 = .ok (.invokevirtual 155, 3) := by decide +kernel
theorem dX7_readSea_32 : decode cX7_readSea 32 = .ok (.ifCond .ne 11, 3) := by decide +kernel
theorem dX7_readSea_35 : decode cX7_readSea 35 = .ok (.aload_n 0, 1) := by decide +kernel
theorem dX7_readSea_36 : decode cX7_readSea 36 = .ok (.iconst 4, 1) := by decide +kernel
theorem dX7_readSea_37 : decode cX7_readSea 37 = .ok (.invokevirtual 155, 3) := by decide +kernel
theorem dX7_readSea_40 : decode cX7_readSea 40 = .ok (.ifCond .eq 10, 3) := by decide +kernel
theorem dX7_readSea_43 : decode cX7_readSea 43 = .ok (.aload_n 0, 1) := by decide +kernel
theorem dX7_readSea_44 : decode cX7_readSea 44 = .ok (.iconst 4, 1) := by decide +kernel
theorem dX7_readSea_45 : decode cX7_readSea 45 = .ok (.iload_n 1, 1) := by decide +kernel
theorem dX7_readSea_46 : decode cX7_readSea 46 = .ok (.invokevirtual 149, 3) := by decide +kernel
theorem dX7_readSea_49 : decode cX7_readSea 49 = .ok (.ireturn, 1) := by decide +kernel
theorem dX7_readSea_50 : decode cX7_readSea 50 = .ok (.aload_n 0, 1) := by decide +kernel
theorem dX7_readSea_51 : decode cX7_readSea 51 = .ok (.iconst 1, 1) := by decide +kernel
theorem dX7_readSea_52 : decode cX7_readSea 52 = .ok (.bipush 8, 2) := by decide +kernel
theorem dX7_readSea_54 : decode cX7_readSea 54 = .ok (.invokevirtual 167, 3) := by decide +kernel
theorem dX7_readSea_57 : decode cX7_readSea 57 = .ok (.ifCond .ne 5, 3) := by decide +kernel
theorem dX7_readSea_60 : decode cX7_readSea 60 = .ok (.iconst 0, 1) := by decide +kernel
theorem dX7_readSea_61 : decode cX7_readSea 61 = .ok (.ireturn, 1) := by decide +kernel
theorem dX7_readSea_62 : decode cX7_readSea 62 = .ok (.aload_n 0, 1) := by decide +kernel
theorem dX7_readSea_63 : decode cX7_readSea 63 = .ok (.getfield 76, 3) := by decide +kernel
theorem dX7_readSea_66 : decode cX7_readSea 66 = .ok (.getfield 158, 3) := by decide +kernel
theorem dX7_readSea_69 : decode cX7_readSea 69 = .ok (.aload_n 0, 1) := by decide +kernel
theorem dX7_readSea_70 : decode cX7_readSea 70 = .ok (.getfield 41, 3) := by decide +kernel
theorem dX7_readSea_73 : decode cX7_readSea 73 = .ok (.putfield 162, 3) := by decide +kernel
theorem dX7_readSea_76 : decode cX7_readSea 76 = .ok (.aload_n 0, 1) := by decide +kernel
theorem dX7_readSea_77 : decode cX7_readSea 77 = .ok (.iconst 1, 1) := by decide +kernel
theorem dX7_readSea_78 : decode cX7_readSea 78 = .ok (.bipush 8, 2) := by decide +kernel
theorem dX7_readSea_80 : decode cX7_readSea 80 = .ok (.invokevirtual 167, 3) := by decide +kernel
theorem dX7_readSea_83 : decode cX7_readSea 83 = .ok (.ifCond .ne 5, 3) := by decide +kernel
theorem dX7_readSea_86 : decode cX7_readSea 86 = .ok (.iconst 0, 1) := by decide +kernel
theorem dX7_readSea_87 : decode cX7_readSea 87 = .ok (.ireturn, 1) := by decide +kernel
theorem dX7_readSea_88 : decode cX7_readSea 88 = .ok (.aload_n 0, 1) := by decide +kernel
theorem dX7_readSea_89 : decode cX7_readSea 89 = .ok (.getfield 76, 3) := by decide +kernel
theorem dX7_readSea_92 : decode cX7_readSea 92 = .ok (.getfield 158, 3) := by decide +kernel
theorem dX7_readSea_95 : decode cX7_readSea 95 = .ok (.aload_n 0, 1) := by decide +kernel
theorem dX7_readSea_96 : decode cX7_readSea 96 = .ok (.getfield 41, 3) := by decide +kernel
theorem dX7_readSea_99 : decode cX7_readSea 99 = .ok (.putfield 170, 3) := by decide +kernel
theorem dX7_readSea_102 : decode cX7_readSea 102 = .ok (.iconst 1, 1) := by decide +kernel
theorem dX7_readSea_103 : decode cX7_readSea 103 = .ok (.ireturn, 1) := by decide +kernel
noncomputable def b_X7_readSea_0 (rec : Rk) (x1 : Int) (h : Hp) : Option (Int × Hp) :=
  bd (f_X7_tellOnce 0 x1 h) fun v1 h2 =>
  if v1 = 0 then (
    some (0, h2)
  ) else (
    bd (f_X7_isTold 1 h2) fun v3 h4 =>
    if v3 = 0 then (
      bd (f_X7_isTold 2 h4) fun v5 h6 =>
      if v5 = 0 then (
        bd (f_X7_isTold 3 h6) fun v7 h8 =>
        if v7 = 0 then (
          bd (f_X7_isTold 4 h8) fun v9 h10 =>
          if v9 = 0 then (
            bd (f_X7_readNumber 1 8 h10) fun v11 h12 =>
            if v11 = 0 then (
              some (0, h12)
            ) else (
              rf (gR h12 7 0 1) 0 fun j13 =>
              lt (sI h12 9 j13 0 (gI h12 7 0 11)) fun h14 =>
              bd (f_X7_readNumber 1 8 h14) fun v15 h16 =>
              if v15 = 0 then (
                some (0, h16)
              ) else (
                rf (gR h16 7 0 1) 0 fun j17 =>
                lt (sI h16 9 j17 1 (gI h16 7 0 11)) fun h18 =>
                some (1, h18)
              )
            )
          ) else (
            rec 1 [x1] h10
          )
        ) else (
          rec 1 [x1] h8
        )
      ) else (
        rec 1 [x1] h6
      )
    ) else (
      rec 1 [x1] h4
    )
  )
noncomputable def b_X7_readSea_1 (rec : Rk) (x1 : Int) (h : Hp) : Option (Int × Hp) :=
  bd (f_X7_wrong 4 x1 h) fun v1 h2 =>
  ck (0 ≤ v1 ∧ v1 < 2) <|
  some (v1, h2)
noncomputable def g_X7_readSea (n : Nat) : Rk := Nat.rec (motive := fun _ => Rk) (fun _ _ _ => none) (fun _ rec k l h => if k = 0 then b_X7_readSea_0 rec (l.getD 0 0) h else if k = 1 then b_X7_readSea_1 rec (l.getD 0 0) h else none) n
noncomputable def f_X7_readSea (x1 : Int) (h : Hp) : Option (Int × Hp) := g_X7_readSea FU 0 [x1] h
set_option maxHeartbeats 4000000 in
set_option maxRecDepth 100000 in
theorem t_X7_readSea_0 (E : xE) (d : Nat) (rec : Rk) (r : Int × Hp) (hr_43 : ∀ (x1 : Int) (h : Hp), Lay h → rec 1 [x1] h = some r → X E mX7_readSea (d + 3) (0, 0) (0, 0) 43 [some (xr 7 0), some (xi x1)] [] h (PoI r)) (x1 : Int) (h : Hp) (hL : Lay h) (hF : b_X7_readSea_0 rec x1 h = some r) : X E mX7_readSea (d + 3) (0, 0) (0, 0) 0 [some (xr 7 0), some (xi x1)] [] h (PoI r) := by
  unfold b_X7_readSea_0 at hF
  refine x_aload_n (i := 0) (b := 1) dX7_readSea_0 rfl rfl rfl ?_
  refine x_iconst (n := 0) (b := 2) dX7_readSea_1 (by decide) rfl ?_
  refine x_iload_n (i := 1) (b := 3) dX7_readSea_2 rfl rfl rfl ?_
  obtain ⟨v1, h2, hq, hF⟩ := bd_e hF
  refine x_callV (as := [xi 0, xi x1]) (rest := []) (b := 6) (c_X7_tellOnce d 0 x1 h _ hL hq) dX7_readSea_3 cw_X7_179 ⟨_, _, rfl, Nat.le_of_ble_eq_true rfl⟩ rfl rfl (Nat.le_of_ble_eq_true rfl) ⟨Nat.le_refl _, Nat.le_refl _⟩ rfl (fun rv hh hp _ => ?_)
  obtain ⟨rfl, rfl, hL⟩ := hp
  refine x_if_ne (tgt := 11) (b := 9) dX7_readSea_6 (by decide) rfl (fun hc => ?_) (fun hc => ?_)
  · replace hF := br_F hc hF
    refine x_aload_n (i := 0) (b := 12) dX7_readSea_11 rfl rfl rfl ?_
    refine x_iconst (n := 1) (b := 13) dX7_readSea_12 (by decide) rfl ?_
    obtain ⟨v3, h4, hq, hF⟩ := bd_e hF
    refine x_callV (as := [xi 1]) (rest := []) (b := 16) (c_X7_isTold (d + 1) 1 h2 _ hL hq) dX7_readSea_13 cw_X7_155 ⟨_, _, rfl, Nat.le_of_ble_eq_true rfl⟩ rfl rfl (Nat.le_of_ble_eq_true rfl) ⟨Nat.le_refl _, Nat.le_refl _⟩ rfl (fun rv hh hp _ => ?_)
    obtain ⟨rfl, rfl, hL⟩ := hp
    refine x_if_ne (tgt := 43) (b := 19) dX7_readSea_16 (by decide) rfl (fun hc => ?_) (fun hc => ?_)
    · replace hF := br_F hc hF
      exact x_dp (ls2 := [some (xr 7 0), some (xi x1)]) ⟨rfl, rfl, trivial⟩ (hr_43 x1 h4 hL hF)
    · replace hF := br_T hc hF
      refine x_aload_n (i := 0) (b := 20) dX7_readSea_19 rfl rfl rfl ?_
      refine x_iconst (n := 2) (b := 21) dX7_readSea_20 (by decide) rfl ?_
      obtain ⟨v5, h6, hq, hF⟩ := bd_e hF
      refine x_callV (as := [xi 2]) (rest := []) (b := 24) (c_X7_isTold (d + 1) 2 h4 _ hL hq) dX7_readSea_21 cw_X7_155 ⟨_, _, rfl, Nat.le_of_ble_eq_true rfl⟩ rfl rfl (Nat.le_of_ble_eq_true rfl) ⟨Nat.le_refl _, Nat.le_refl _⟩ rfl (fun rv hh hp _ => ?_)
      obtain ⟨rfl, rfl, hL⟩ := hp
      refine x_if_ne (tgt := 43) (b := 27) dX7_readSea_24 (by decide) rfl (fun hc => ?_) (fun hc => ?_)
      · replace hF := br_F hc hF
        exact x_dp (ls2 := [some (xr 7 0), some (xi x1)]) ⟨rfl, rfl, trivial⟩ (hr_43 x1 h6 hL hF)
      · replace hF := br_T hc hF
        refine x_aload_n (i := 0) (b := 28) dX7_readSea_27 rfl rfl rfl ?_
        refine x_iconst (n := 3) (b := 29) dX7_readSea_28 (by decide) rfl ?_
        obtain ⟨v7, h8, hq, hF⟩ := bd_e hF
        refine x_callV (as := [xi 3]) (rest := []) (b := 32) (c_X7_isTold (d + 1) 3 h6 _ hL hq) dX7_readSea_29 cw_X7_155 ⟨_, _, rfl, Nat.le_of_ble_eq_true rfl⟩ rfl rfl (Nat.le_of_ble_eq_true rfl) ⟨Nat.le_refl _, Nat.le_refl _⟩ rfl (fun rv hh hp _ => ?_)
        obtain ⟨rfl, rfl, hL⟩ := hp
        refine x_if_ne (tgt := 43) (b := 35) dX7_readSea_32 (by decide) rfl (fun hc => ?_) (fun hc => ?_)
        · replace hF := br_F hc hF
          exact x_dp (ls2 := [some (xr 7 0), some (xi x1)]) ⟨rfl, rfl, trivial⟩ (hr_43 x1 h8 hL hF)
        · replace hF := br_T hc hF
          refine x_aload_n (i := 0) (b := 36) dX7_readSea_35 rfl rfl rfl ?_
          refine x_iconst (n := 4) (b := 37) dX7_readSea_36 (by decide) rfl ?_
          obtain ⟨v9, h10, hq, hF⟩ := bd_e hF
          refine x_callV (as := [xi 4]) (rest := []) (b := 40) (c_X7_isTold (d + 1) 4 h8 _ hL hq) dX7_readSea_37 cw_X7_155 ⟨_, _, rfl, Nat.le_of_ble_eq_true rfl⟩ rfl rfl (Nat.le_of_ble_eq_true rfl) ⟨Nat.le_refl _, Nat.le_refl _⟩ rfl (fun rv hh hp _ => ?_)
          obtain ⟨rfl, rfl, hL⟩ := hp
          refine x_if_eq (tgt := 50) (b := 43) dX7_readSea_40 (by decide) rfl (fun hc => ?_) (fun hc => ?_)
          · replace hF := br_T hc hF
            refine x_aload_n (i := 0) (b := 51) dX7_readSea_50 rfl rfl rfl ?_
            refine x_iconst (n := 1) (b := 52) dX7_readSea_51 (by decide) rfl ?_
            refine x_bipush (n := 8) (b := 54) dX7_readSea_52 (by decide) rfl ?_
            obtain ⟨v11, h12, hq, hF⟩ := bd_e hF
            refine x_callV (as := [xi 1, xi 8]) (rest := []) (b := 57) (c_X7_readNumber d 1 8 h10 _ hL hq) dX7_readSea_54 cw_X7_167 ⟨_, _, rfl, Nat.le_of_ble_eq_true rfl⟩ rfl rfl (Nat.le_of_ble_eq_true rfl) ⟨Nat.le_refl _, Nat.le_refl _⟩ rfl (fun rv hh hp _ => ?_)
            obtain ⟨rfl, rfl, hL⟩ := hp
            refine x_if_ne (tgt := 62) (b := 60) dX7_readSea_57 (by decide) rfl (fun hc => ?_) (fun hc => ?_)
            · replace hF := br_F hc hF
              refine x_aload_n (i := 0) (b := 63) dX7_readSea_62 rfl rfl rfl ?_
              obtain ⟨j13, e_j13, hF⟩ := rf_e hF
              refine x_getR (v := some (0, j13)) (b := 66) fk_X7_76 dX7_readSea_63 rfl e_j13 rfl ?_
              refine x_getL (j := j13) (t := (9, 0, true)) (b := 69) fk_X7_158 dX7_readSea_66 rfl hL rfl rfl rfl ?_
              refine x_aload_n (i := 0) (b := 70) dX7_readSea_69 rfl rfl rfl ?_
              refine x_getI (v := gI h12 7 0 11) (b := 73) fk_X7_41 dX7_readSea_70 (by decide) rfl rfl ?_
              refine x_putI (b := 76) fk_X7_162 dX7_readSea_73 rfl rfl 0 rfl ?_
              obtain ⟨h14, e_h14, hF⟩ := lt_e hF
              refine x_hp (h2 := h14) e_h14 ?_
              replace hL : Lay h14 := by rw [← e_h14]; exact hL
              refine x_aload_n (i := 0) (b := 77) dX7_readSea_76 rfl rfl rfl ?_
              refine x_iconst (n := 1) (b := 78) dX7_readSea_77 (by decide) rfl ?_
              refine x_bipush (n := 8) (b := 80) dX7_readSea_78 (by decide) rfl ?_
              obtain ⟨v15, h16, hq, hF⟩ := bd_e hF
              refine x_callV (as := [xi 1, xi 8]) (rest := []) (b := 83) (c_X7_readNumber d 1 8 h14 _ hL hq) dX7_readSea_80 cw_X7_167 ⟨_, _, rfl, Nat.le_of_ble_eq_true rfl⟩ rfl rfl (Nat.le_of_ble_eq_true rfl) ⟨Nat.le_refl _, Nat.le_refl _⟩ rfl (fun rv hh hp _ => ?_)
              obtain ⟨rfl, rfl, hL⟩ := hp
              refine x_if_ne (tgt := 88) (b := 86) dX7_readSea_83 (by decide) rfl (fun hc => ?_) (fun hc => ?_)
              · replace hF := br_F hc hF
                refine x_aload_n (i := 0) (b := 89) dX7_readSea_88 rfl rfl rfl ?_
                obtain ⟨j17, e_j17, hF⟩ := rf_e hF
                refine x_getR (v := some (0, j17)) (b := 92) fk_X7_76 dX7_readSea_89 rfl e_j17 rfl ?_
                refine x_getL (j := j17) (t := (9, 0, true)) (b := 95) fk_X7_158 dX7_readSea_92 rfl hL rfl rfl rfl ?_
                refine x_aload_n (i := 0) (b := 96) dX7_readSea_95 rfl rfl rfl ?_
                refine x_getI (v := gI h16 7 0 11) (b := 99) fk_X7_41 dX7_readSea_96 (by decide) rfl rfl ?_
                refine x_putI (b := 102) fk_X7_170 dX7_readSea_99 rfl rfl 1 rfl ?_
                obtain ⟨h18, e_h18, hF⟩ := lt_e hF
                refine x_hp (h2 := h18) e_h18 ?_
                replace hL : Lay h18 := by rw [← e_h18]; exact hL
                refine x_iconst (n := 1) (b := 103) dX7_readSea_102 (by decide) rfl ?_
                refine x_zreturn dX7_readSea_103 rfl ⟨Nat.le_refl _, Nat.le_refl _⟩ (by decide) ?_
                cases hF
                exact ⟨rfl, rfl, hL⟩
              · replace hF := br_T hc hF
                refine x_iconst (n := 0) (b := 87) dX7_readSea_86 (by decide) rfl ?_
                refine x_zreturn dX7_readSea_87 rfl ⟨Nat.le_refl _, Nat.le_refl _⟩ (by decide) ?_
                cases hF
                exact ⟨rfl, rfl, hL⟩
            · replace hF := br_T hc hF
              refine x_iconst (n := 0) (b := 61) dX7_readSea_60 (by decide) rfl ?_
              refine x_zreturn dX7_readSea_61 rfl ⟨Nat.le_refl _, Nat.le_refl _⟩ (by decide) ?_
              cases hF
              exact ⟨rfl, rfl, hL⟩
          · replace hF := br_F hc hF
            exact x_dp (ls2 := [some (xr 7 0), some (xi x1)]) ⟨rfl, rfl, trivial⟩ (hr_43 x1 h10 hL hF)
  · replace hF := br_T hc hF
    refine x_iconst (n := 0) (b := 10) dX7_readSea_9 (by decide) rfl ?_
    refine x_zreturn dX7_readSea_10 rfl ⟨Nat.le_refl _, Nat.le_refl _⟩ (by decide) ?_
    cases hF
    exact ⟨rfl, rfl, hL⟩
set_option maxHeartbeats 4000000 in
set_option maxRecDepth 100000 in
theorem t_X7_readSea_1 (E : xE) (d : Nat) (rec : Rk) (r : Int × Hp) (x1 : Int) (h : Hp) (hL : Lay h) (hF : b_X7_readSea_1 rec x1 h = some r) : X E mX7_readSea (d + 3) (0, 0) (0, 0) 43 [some (xr 7 0), some (xi x1)] [] h (PoI r) := by
  unfold b_X7_readSea_1 at hF
  refine x_aload_n (i := 0) (b := 44) dX7_readSea_43 rfl rfl rfl ?_
  refine x_iconst (n := 4) (b := 45) dX7_readSea_44 (by decide) rfl ?_
  refine x_iload_n (i := 1) (b := 46) dX7_readSea_45 rfl rfl rfl ?_
  obtain ⟨v1, h2, hq, hF⟩ := bd_e hF
  refine x_callV (as := [xi 4, xi x1]) (rest := []) (b := 49) (c_X7_wrong (d + 1) 4 x1 h _ hL hq) dX7_readSea_46 cw_X7_149 ⟨_, _, rfl, Nat.le_of_ble_eq_true rfl⟩ rfl rfl (Nat.le_of_ble_eq_true rfl) ⟨Nat.le_refl _, Nat.le_refl _⟩ rfl (fun rv hh hp _ => ?_)
  obtain ⟨rfl, rfl, hL⟩ := hp
  obtain ⟨hs, hF⟩ := ck_e hF
  refine x_zreturn dX7_readSea_49 rfl ⟨Nat.le_refl _, Nat.le_refl _⟩ hs ?_
  cases hF
  exact ⟨rfl, rfl, hL⟩
set_option maxHeartbeats 4000000 in
set_option maxRecDepth 100000 in
theorem u_X7_readSea (E : xE) (d : Nat) (r : Int × Hp) : ∀ n : Nat, (∀ (x1 : Int) (h : Hp), Lay h → g_X7_readSea n 0 [x1] h = some r → X E mX7_readSea (d + 3) (0, 0) (0, 0) 0 [some (xr 7 0), some (xi x1)] [] h (PoI r)) ∧ (∀ (x1 : Int) (h : Hp), Lay h → g_X7_readSea n 1 [x1] h = some r → X E mX7_readSea (d + 3) (0, 0) (0, 0) 43 [some (xr 7 0), some (xi x1)] [] h (PoI r)) := by
  intro n
  induction n with
  | zero => exact ⟨fun _ _ _ hF => no_e (r := r) hF, fun _ _ _ hF => no_e (r := r) hF⟩
  | succ n ih => exact ⟨fun x1 h hL hF => t_X7_readSea_0 E d (g_X7_readSea n) r ih.2 x1 h hL hF, fun x1 h hL hF => t_X7_readSea_1 E d (g_X7_readSea n) r  x1 h hL hF⟩
theorem c_X7_readSea (d : Nat) (x1 : Int) (h : Hp) (r : Int × Hp) (hL : Lay h) (hF : f_X7_readSea x1 h = some r) : Sp mX7_readSea (d + 3) (0, 0) [xr 7 0, xi x1] h (PoI r) :=
  sp_of (by decide) rfl (Nat.le_of_ble_eq_true rfl) (ls := [some (xr 7 0), some (xi x1)]) rfl (fun E _ => (u_X7_readSea E d r FU).1 x1 h hL hF)
theorem dX7_readShip_0 : decode cX7_readShip 0 = .ok (.aload_n 0, 1) := by decide +kernel
theorem dX7_readShip_1 : decode cX7_readShip 1 = .ok (.iload_n 1, 1) := by decide +kernel
theorem dX7_readShip_2 : decode cX7_readShip 2 = .ok (.iload_n 2, 1) := by decide +kernel
theorem dX7_readShip_3 : decode cX7_readShip 3 = .ok (.invokevirtual 179, 3) := by decide +kernel
theorem dX7_readShip_6 : decode cX7_readShip 6 = .ok (.ifCond .eq 10, 3) := by decide +kernel
theorem dX7_readShip_9 : decode cX7_readShip 9 = .ok (.aload_n 0, 1) := by decide +kernel
theorem dX7_readShip_10 : decode cX7_readShip 10 = .ok (.invokevirtual 198, 3) := by decide +kernel
theorem dX7_readShip_13 : decode cX7_readShip 13 = .ok (.ifCond .ne 5, 3) := by decide +kernel
theorem dX7_readShip_16 : decode cX7_readShip 16 = .ok (.iconst 0, 1) := by decide +kernel
theorem dX7_readShip_17 : decode cX7_readShip 17 = .ok (.ireturn, 1) := by decide +kernel
theorem dX7_readShip_18 : decode cX7_readShip 18 = .ok (.iload_n 1, 1) := by decide +kernel
theorem dX7_readShip_19 : decode cX7_readShip 19 = .ok (.iconst 2, 1) := by decide +kernel
theorem dX7_readShip_20 : decode cX7_readShip 20 = .ok (.if_icmp .ne 20, 3) := by decide +kernel
theorem dX7_readShip_23 : decode cX7_readShip 23 = .ok (.aload_n 0, 1) := by decide +kernel
theorem dX7_readShip_24 : decode cX7_readShip 24 = .ok (.getfield 76, 3) := by decide +kernel
theorem dX7_readShip_27 : decode cX7_readShip 27 = .ok (.getfield 158, 3) := by decide +kernel
theorem dX7_readShip_30 : decode cX7_readShip 30 = .ok (.aload_n 0, 1) := by decide +kernel
theorem dX7_readShip_31 : decode cX7_readShip 31 = .ok (.getfield 41, 3) := by decide +kernel
theorem dX7_readShip_34 : decode cX7_readShip 34 = .ok (.putfield 185, 3) := by decide +kernel
theorem dX7_readShip_37 : decode cX7_readShip 37 = .ok (.goto 17, 3) := by decide +kernel
theorem dX7_readShip_40 : decode cX7_readShip 40 = .ok (.aload_n 0, 1) := by decide +kernel
theorem dX7_readShip_41 : decode cX7_readShip 41 = .ok (.getfield 76, 3) := by decide +kernel
theorem dX7_readShip_44 : decode cX7_readShip 44 = .ok (.getfield 158, 3) := by decide +kernel
theorem dX7_readShip_47 : decode cX7_readShip 47 = .ok (.aload_n 0, 1) := by decide +kernel
theorem dX7_readShip_48 : decode cX7_readShip 48 = .ok (.getfield 41, 3) := by decide +kernel
theorem dX7_readShip_51 : decode cX7_readShip 51 = .ok (.putfield 188, 3) := by decide +kernel
theorem dX7_readShip_54 : decode cX7_readShip 54 = .ok (.iconst 1, 1) := by decide +kernel
theorem dX7_readShip_55 : decode cX7_readShip 55 = .ok (.ireturn, 1) := by decide +kernel
noncomputable def b_X7_readShip_0 (rec : Rk) (x1 x2 : Int) (h : Hp) : Option (Int × Hp) :=
  bd (f_X7_tellOnce x1 x2 h) fun v1 h2 =>
  if v1 = 0 then (
    some (0, h2)
  ) else (
    bd (f_X7_readCellOfWater h2) fun v3 h4 =>
    if v3 = 0 then (
      some (0, h4)
    ) else (
      if x1 = 2 then (
        rf (gR h4 7 0 1) 0 fun j5 =>
        lt (sI h4 9 j5 4 (gI h4 7 0 11)) fun h6 =>
        some (1, h6)
      ) else (
        rf (gR h4 7 0 1) 0 fun j7 =>
        lt (sI h4 9 j7 5 (gI h4 7 0 11)) fun h8 =>
        some (1, h8)
      )
    )
  )
noncomputable def g_X7_readShip (n : Nat) : Rk := Nat.rec (motive := fun _ => Rk) (fun _ _ _ => none) (fun _ rec k l h => if k = 0 then b_X7_readShip_0 rec (l.getD 0 0) (l.getD 1 0) h else none) n
noncomputable def f_X7_readShip (x1 x2 : Int) (h : Hp) : Option (Int × Hp) := g_X7_readShip FU 0 [x1, x2] h
set_option maxHeartbeats 4000000 in
set_option maxRecDepth 100000 in
theorem t_X7_readShip_0 (E : xE) (d : Nat) (rec : Rk) (r : Int × Hp) (x1 x2 : Int) (h : Hp) (hL : Lay h) (hF : b_X7_readShip_0 rec x1 x2 h = some r) : X E mX7_readShip (d + 5) (0, 0) (0, 0) 0 [some (xr 7 0), some (xi x1), some (xi x2)] [] h (PoI r) := by
  unfold b_X7_readShip_0 at hF
  refine x_aload_n (i := 0) (b := 1) dX7_readShip_0 rfl rfl rfl ?_
  refine x_iload_n (i := 1) (b := 2) dX7_readShip_1 rfl rfl rfl ?_
  refine x_iload_n (i := 2) (b := 3) dX7_readShip_2 rfl rfl rfl ?_
  obtain ⟨v1, h2, hq, hF⟩ := bd_e hF
  refine x_callV (as := [xi x1, xi x2]) (rest := []) (b := 6) (c_X7_tellOnce (d + 2) x1 x2 h _ hL hq) dX7_readShip_3 cw_X7_179 ⟨_, _, rfl, Nat.le_of_ble_eq_true rfl⟩ rfl rfl (Nat.le_of_ble_eq_true rfl) ⟨Nat.le_refl _, Nat.le_refl _⟩ rfl (fun rv hh hp _ => ?_)
  obtain ⟨rfl, rfl, hL⟩ := hp
  refine x_if_eq (tgt := 16) (b := 9) dX7_readShip_6 (by decide) rfl (fun hc => ?_) (fun hc => ?_)
  · replace hF := br_T hc hF
    refine x_iconst (n := 0) (b := 17) dX7_readShip_16 (by decide) rfl ?_
    refine x_zreturn dX7_readShip_17 rfl ⟨Nat.le_refl _, Nat.le_refl _⟩ (by decide) ?_
    cases hF
    exact ⟨rfl, rfl, hL⟩
  · replace hF := br_F hc hF
    refine x_aload_n (i := 0) (b := 10) dX7_readShip_9 rfl rfl rfl ?_
    obtain ⟨v3, h4, hq, hF⟩ := bd_e hF
    refine x_callV (as := []) (rest := []) (b := 13) (c_X7_readCellOfWater d h2 _ hL hq) dX7_readShip_10 cw_X7_198 ⟨_, _, rfl, Nat.le_of_ble_eq_true rfl⟩ rfl rfl (Nat.le_of_ble_eq_true rfl) ⟨Nat.le_refl _, Nat.le_refl _⟩ rfl (fun rv hh hp _ => ?_)
    obtain ⟨rfl, rfl, hL⟩ := hp
    refine x_if_ne (tgt := 18) (b := 16) dX7_readShip_13 (by decide) rfl (fun hc => ?_) (fun hc => ?_)
    · replace hF := br_F hc hF
      refine x_iload_n (i := 1) (b := 19) dX7_readShip_18 rfl rfl rfl ?_
      refine x_iconst (n := 2) (b := 20) dX7_readShip_19 (by decide) rfl ?_
      refine x_icmp_ne (tgt := 40) (b := 23) dX7_readShip_20 (by decide) rfl (fun hc => ?_) (fun hc => ?_)
      · replace hF := br_F hc hF
        refine x_aload_n (i := 0) (b := 41) dX7_readShip_40 rfl rfl rfl ?_
        obtain ⟨j7, e_j7, hF⟩ := rf_e hF
        refine x_getR (v := some (0, j7)) (b := 44) fk_X7_76 dX7_readShip_41 rfl e_j7 rfl ?_
        refine x_getL (j := j7) (t := (9, 0, true)) (b := 47) fk_X7_158 dX7_readShip_44 rfl hL rfl rfl rfl ?_
        refine x_aload_n (i := 0) (b := 48) dX7_readShip_47 rfl rfl rfl ?_
        refine x_getI (v := gI h4 7 0 11) (b := 51) fk_X7_41 dX7_readShip_48 (by decide) rfl rfl ?_
        refine x_putI (b := 54) fk_X7_188 dX7_readShip_51 rfl rfl 5 rfl ?_
        obtain ⟨h8, e_h8, hF⟩ := lt_e hF
        refine x_hp (h2 := h8) e_h8 ?_
        replace hL : Lay h8 := by rw [← e_h8]; exact hL
        refine x_iconst (n := 1) (b := 55) dX7_readShip_54 (by decide) rfl ?_
        refine x_zreturn dX7_readShip_55 rfl ⟨Nat.le_refl _, Nat.le_refl _⟩ (by decide) ?_
        cases hF
        exact ⟨rfl, rfl, hL⟩
      · replace hF := br_T hc hF
        refine x_aload_n (i := 0) (b := 24) dX7_readShip_23 rfl rfl rfl ?_
        obtain ⟨j5, e_j5, hF⟩ := rf_e hF
        refine x_getR (v := some (0, j5)) (b := 27) fk_X7_76 dX7_readShip_24 rfl e_j5 rfl ?_
        refine x_getL (j := j5) (t := (9, 0, true)) (b := 30) fk_X7_158 dX7_readShip_27 rfl hL rfl rfl rfl ?_
        refine x_aload_n (i := 0) (b := 31) dX7_readShip_30 rfl rfl rfl ?_
        refine x_getI (v := gI h4 7 0 11) (b := 34) fk_X7_41 dX7_readShip_31 (by decide) rfl rfl ?_
        refine x_putI (b := 37) fk_X7_185 dX7_readShip_34 rfl rfl 4 rfl ?_
        obtain ⟨h6, e_h6, hF⟩ := lt_e hF
        refine x_hp (h2 := h6) e_h6 ?_
        replace hL : Lay h6 := by rw [← e_h6]; exact hL
        refine x_goto (tgt := 54) dX7_readShip_37 (by decide) ?_
        refine x_iconst (n := 1) (b := 55) dX7_readShip_54 (by decide) rfl ?_
        refine x_zreturn dX7_readShip_55 rfl ⟨Nat.le_refl _, Nat.le_refl _⟩ (by decide) ?_
        cases hF
        exact ⟨rfl, rfl, hL⟩
    · replace hF := br_T hc hF
      refine x_iconst (n := 0) (b := 17) dX7_readShip_16 (by decide) rfl ?_
      refine x_zreturn dX7_readShip_17 rfl ⟨Nat.le_refl _, Nat.le_refl _⟩ (by decide) ?_
      cases hF
      exact ⟨rfl, rfl, hL⟩
set_option maxHeartbeats 4000000 in
set_option maxRecDepth 100000 in
theorem u_X7_readShip (E : xE) (d : Nat) (r : Int × Hp) : ∀ n : Nat, (∀ (x1 x2 : Int) (h : Hp), Lay h → g_X7_readShip n 0 [x1, x2] h = some r → X E mX7_readShip (d + 5) (0, 0) (0, 0) 0 [some (xr 7 0), some (xi x1), some (xi x2)] [] h (PoI r)) := by
  intro n
  induction n with
  | zero => exact fun _ _ _ _ hF => no_e (r := r) hF
  | succ n ih => exact fun x1 x2 h hL hF => t_X7_readShip_0 E d (g_X7_readShip n) r  x1 x2 h hL hF
theorem c_X7_readShip (d : Nat) (x1 x2 : Int) (h : Hp) (r : Int × Hp) (hL : Lay h) (hF : f_X7_readShip x1 x2 h = some r) : Sp mX7_readShip (d + 5) (0, 0) [xr 7 0, xi x1, xi x2] h (PoI r) :=
  sp_of (by decide) rfl (Nat.le_of_ble_eq_true rfl) (ls := [some (xr 7 0), some (xi x1), some (xi x2)]) rfl (fun E _ => (u_X7_readShip E d r FU) x1 x2 h hL hF)
theorem dX7_readStore_0 : decode cX7_readStore 0 = .ok (.aload_n 0, 1) := by decide +kernel
theorem dX7_readStore_1 : decode cX7_readStore 1 = .ok (.iload_n 1, 1) := by decide +kernel
theorem dX7_readStore_2 : decode cX7_readStore 2 = .ok (.iload_n 2, 1) := by decide +kernel
theorem dX7_readStore_3 : decode cX7_readStore 3 = .ok (.invokevirtual 179, 3) := by decide +kernel
theorem dX7_readStore_6 : decode cX7_readStore 6 = .ok (.ifCond .eq 25, 3) := by decide +kernel
theorem dX7_readStore_9 : decode cX7_readStore 9 = .ok (.aload_n 0, 1) := by decide +kernel
theorem dX7_readStore_10 : decode cX7_readStore 10 = .ok (.iconst 0, 1) := by decide +kernel
theorem dX7_readStore_11 : decode cX7_readStore 11 = .ok (.iload_n 1, 1) := by decide +kernel
theorem dX7_readStore_12 : decode cX7_readStore 12 = .ok (.bipush 8, 2) := by decide +kernel
theorem dX7_readStore_14 : decode cX7_readStore 14 = .ok (.if_icmp .ne 9, 3) := by decide +kernel
theorem dX7_readStore_17 : decode cX7_readStore 17 = .ok (.sipush 9999, 3) := by decide +kernel
theorem dX7_readStore_20 : decode cX7_readStore 20 = .ok (.goto 5, 3) := by decide +kernel
theorem dX7_readStore_23 : decode cX7_readStore 23 = .ok (.ldc 244, 2) := by decide +kernel
theorem dX7_readStore_25 : decode cX7_readStore 25 = .ok (.invokevirtual 167, 3) := by decide +kernel
theorem dX7_readStore_28 : decode cX7_readStore 28 = .ok (.ifCond .ne 5, 3) := by decide +kernel
theorem dX7_readStore_31 : decode cX7_readStore 31 = .ok (.iconst 0, 1) := by decide +kernel
theorem dX7_readStore_32 : decode cX7_readStore 32 = .ok (.ireturn, 1) := by decide +kernel
theorem dX7_readStore_33 : decode cX7_readStore 33 = .ok (.iload_n 1, 1) := by decide +kernel
theorem dX7_readStore_34 : decode cX7_readStore 34 = .ok (.bipush 8, 2) := by decide +kernel
theorem dX7_readStore_36 : decode cX7_readStore 36 = .ok (.if_icmp .ne 17, 3) := by decide +kernel
theorem dX7_readStore_39 : decode cX7_readStore 39 = .ok (.aload_n 0, 1) := by decide +kernel
theorem dX7_readStore_40 : decode cX7_readStore 40 = .ok (.getfield 76, 3) := by decide +kernel
theorem dX7_readStore_43 : decode cX7_readStore 43 = .ok (.aload_n 0, 1) := by decide +kernel
theorem dX7_readStore_44 : decode cX7_readStore 44 = .ok (.getfield 41, 3) := by decide +kernel
theorem dX7_readStore_47 : decode cX7_readStore 47 = .ok (.putfield 245, 3) := by decide +kernel
theorem dX7_readStore_50 : decode cX7_readStore 50 = .ok (.goto 14, 3) := by decide +kernel
theorem dX7_readStore_53 : decode cX7_readStore 53 = .ok (.aload_n 0, 1) := by decide +kernel
theorem dX7_readStore_54 : decode cX7_readStore 54 = .ok (.getfield 76, 3) := by decide +kernel
theorem dX7_readStore_57 : decode cX7_readStore 57 = .ok (.aload_n 0, 1) := by decide +kernel
theorem dX7_readStore_58 : decode cX7_readStore 58 = .ok (.getfield 41, 3) := by decide +kernel
theorem dX7_readStore_61 : decode cX7_readStore 61 = .ok (.putfield 248, 3) := by decide +kernel
theorem dX7_readStore_64 : decode cX7_readStore 64 = .ok (.iconst 1, 1) := by decide +kernel
theorem dX7_readStore_65 : decode cX7_readStore 65 = .ok (.ireturn, 1) := by decide +kernel
noncomputable def b_X7_readStore_0 (rec : Rk) (x1 x2 : Int) (h : Hp) : Option (Int × Hp) :=
  bd (f_X7_tellOnce x1 x2 h) fun v1 h2 =>
  if v1 = 0 then (
    some (0, h2)
  ) else (
    if x1 = 8 then (
      rec 1 [x1, 9999, 0] h2
    ) else (
      rec 1 [x1, 99999, 0] h2
    )
  )
noncomputable def b_X7_readStore_1 (rec : Rk) (x1 y0 y1 : Int) (h : Hp) : Option (Int × Hp) :=
  bd (f_X7_readNumber y1 y0 h) fun v1 h2 =>
  if v1 = 0 then (
    some (0, h2)
  ) else (
    if x1 = 8 then (
      rf (gR h2 7 0 1) 0 fun j3 =>
      lt (sI h2 0 j3 13 (gI h2 7 0 11)) fun h4 =>
      some (1, h4)
    ) else (
      rf (gR h2 7 0 1) 0 fun j5 =>
      lt (sI h2 0 j5 14 (gI h2 7 0 11)) fun h6 =>
      some (1, h6)
    )
  )
noncomputable def g_X7_readStore (n : Nat) : Rk := Nat.rec (motive := fun _ => Rk) (fun _ _ _ => none) (fun _ rec k l h => if k = 0 then b_X7_readStore_0 rec (l.getD 0 0) (l.getD 1 0) h else if k = 1 then b_X7_readStore_1 rec (l.getD 0 0) (l.getD 1 0) (l.getD 2 0) h else none) n
noncomputable def f_X7_readStore (x1 x2 : Int) (h : Hp) : Option (Int × Hp) := g_X7_readStore FU 0 [x1, x2] h
set_option maxHeartbeats 4000000 in
set_option maxRecDepth 100000 in
theorem t_X7_readStore_0 (E : xE) (d : Nat) (rec : Rk) (r : Int × Hp) (hr_25 : ∀ (x1 y0 y1 : Int) (h : Hp), Lay h → rec 1 [x1, y0, y1] h = some r → X E mX7_readStore (d + 3) (0, 0) (0, 0) 25 [some (xr 7 0), some (xi x1), none] [xi y0, xi y1, xr 7 0] h (PoI r)) (x1 x2 : Int) (h : Hp) (hL : Lay h) (hF : b_X7_readStore_0 rec x1 x2 h = some r) : X E mX7_readStore (d + 3) (0, 0) (0, 0) 0 [some (xr 7 0), some (xi x1), some (xi x2)] [] h (PoI r) := by
  unfold b_X7_readStore_0 at hF
  refine x_aload_n (i := 0) (b := 1) dX7_readStore_0 rfl rfl rfl ?_
  refine x_iload_n (i := 1) (b := 2) dX7_readStore_1 rfl rfl rfl ?_
  refine x_iload_n (i := 2) (b := 3) dX7_readStore_2 rfl rfl rfl ?_
  obtain ⟨v1, h2, hq, hF⟩ := bd_e hF
  refine x_callV (as := [xi x1, xi x2]) (rest := []) (b := 6) (c_X7_tellOnce d x1 x2 h _ hL hq) dX7_readStore_3 cw_X7_179 ⟨_, _, rfl, Nat.le_of_ble_eq_true rfl⟩ rfl rfl (Nat.le_of_ble_eq_true rfl) ⟨Nat.le_refl _, Nat.le_refl _⟩ rfl (fun rv hh hp _ => ?_)
  obtain ⟨rfl, rfl, hL⟩ := hp
  refine x_if_eq (tgt := 31) (b := 9) dX7_readStore_6 (by decide) rfl (fun hc => ?_) (fun hc => ?_)
  · replace hF := br_T hc hF
    refine x_iconst (n := 0) (b := 32) dX7_readStore_31 (by decide) rfl ?_
    refine x_zreturn dX7_readStore_32 rfl ⟨Nat.le_refl _, Nat.le_refl _⟩ (by decide) ?_
    cases hF
    exact ⟨rfl, rfl, hL⟩
  · replace hF := br_F hc hF
    refine x_aload_n (i := 0) (b := 10) dX7_readStore_9 rfl rfl rfl ?_
    refine x_iconst (n := 0) (b := 11) dX7_readStore_10 (by decide) rfl ?_
    refine x_iload_n (i := 1) (b := 12) dX7_readStore_11 rfl rfl rfl ?_
    refine x_bipush (n := 8) (b := 14) dX7_readStore_12 (by decide) rfl ?_
    refine x_icmp_ne (tgt := 23) (b := 17) dX7_readStore_14 (by decide) rfl (fun hc => ?_) (fun hc => ?_)
    · replace hF := br_F hc hF
      refine x_ldc (z := 99999) (b := 25) dX7_readStore_23 kw_943 (by decide) rfl ?_
      exact x_dp (ls2 := [some (xr 7 0), some (xi x1), none]) ⟨rfl, rfl, trivial⟩ (hr_25 x1 99999 0 h2 hL hF)
    · replace hF := br_T hc hF
      refine x_sipush (n := 9999) (b := 20) dX7_readStore_17 (by decide) rfl ?_
      refine x_goto (tgt := 25) dX7_readStore_20 (by decide) ?_
      exact x_dp (ls2 := [some (xr 7 0), some (xi x1), none]) ⟨rfl, rfl, trivial⟩ (hr_25 x1 9999 0 h2 hL hF)
set_option maxHeartbeats 4000000 in
set_option maxRecDepth 100000 in
theorem t_X7_readStore_1 (E : xE) (d : Nat) (rec : Rk) (r : Int × Hp) (x1 y0 y1 : Int) (h : Hp) (hL : Lay h) (hF : b_X7_readStore_1 rec x1 y0 y1 h = some r) : X E mX7_readStore (d + 3) (0, 0) (0, 0) 25 [some (xr 7 0), some (xi x1), none] [xi y0, xi y1, xr 7 0] h (PoI r) := by
  unfold b_X7_readStore_1 at hF
  obtain ⟨v1, h2, hq, hF⟩ := bd_e hF
  refine x_callV (as := [xi y1, xi y0]) (rest := []) (b := 28) (c_X7_readNumber d y1 y0 h _ hL hq) dX7_readStore_25 cw_X7_167 ⟨_, _, rfl, Nat.le_of_ble_eq_true rfl⟩ rfl rfl (Nat.le_of_ble_eq_true rfl) ⟨Nat.le_refl _, Nat.le_refl _⟩ rfl (fun rv hh hp _ => ?_)
  obtain ⟨rfl, rfl, hL⟩ := hp
  refine x_if_ne (tgt := 33) (b := 31) dX7_readStore_28 (by decide) rfl (fun hc => ?_) (fun hc => ?_)
  · replace hF := br_F hc hF
    refine x_iload_n (i := 1) (b := 34) dX7_readStore_33 rfl rfl rfl ?_
    refine x_bipush (n := 8) (b := 36) dX7_readStore_34 (by decide) rfl ?_
    refine x_icmp_ne (tgt := 53) (b := 39) dX7_readStore_36 (by decide) rfl (fun hc => ?_) (fun hc => ?_)
    · replace hF := br_F hc hF
      refine x_aload_n (i := 0) (b := 54) dX7_readStore_53 rfl rfl rfl ?_
      obtain ⟨j5, e_j5, hF⟩ := rf_e hF
      refine x_getR (v := some (0, j5)) (b := 57) fk_X7_76 dX7_readStore_54 rfl e_j5 rfl ?_
      refine x_aload_n (i := 0) (b := 58) dX7_readStore_57 rfl rfl rfl ?_
      refine x_getI (v := gI h2 7 0 11) (b := 61) fk_X7_41 dX7_readStore_58 (by decide) rfl rfl ?_
      refine x_putI (b := 64) fk_X7_248 dX7_readStore_61 rfl rfl 14 rfl ?_
      obtain ⟨h6, e_h6, hF⟩ := lt_e hF
      refine x_hp (h2 := h6) e_h6 ?_
      replace hL : Lay h6 := by rw [← e_h6]; exact hL
      refine x_iconst (n := 1) (b := 65) dX7_readStore_64 (by decide) rfl ?_
      refine x_zreturn dX7_readStore_65 rfl ⟨Nat.le_refl _, Nat.le_refl _⟩ (by decide) ?_
      cases hF
      exact ⟨rfl, rfl, hL⟩
    · replace hF := br_T hc hF
      refine x_aload_n (i := 0) (b := 40) dX7_readStore_39 rfl rfl rfl ?_
      obtain ⟨j3, e_j3, hF⟩ := rf_e hF
      refine x_getR (v := some (0, j3)) (b := 43) fk_X7_76 dX7_readStore_40 rfl e_j3 rfl ?_
      refine x_aload_n (i := 0) (b := 44) dX7_readStore_43 rfl rfl rfl ?_
      refine x_getI (v := gI h2 7 0 11) (b := 47) fk_X7_41 dX7_readStore_44 (by decide) rfl rfl ?_
      refine x_putI (b := 50) fk_X7_245 dX7_readStore_47 rfl rfl 13 rfl ?_
      obtain ⟨h4, e_h4, hF⟩ := lt_e hF
      refine x_hp (h2 := h4) e_h4 ?_
      replace hL : Lay h4 := by rw [← e_h4]; exact hL
      refine x_goto (tgt := 64) dX7_readStore_50 (by decide) ?_
      refine x_iconst (n := 1) (b := 65) dX7_readStore_64 (by decide) rfl ?_
      refine x_zreturn dX7_readStore_65 rfl ⟨Nat.le_refl _, Nat.le_refl _⟩ (by decide) ?_
      cases hF
      exact ⟨rfl, rfl, hL⟩
  · replace hF := br_T hc hF
    refine x_iconst (n := 0) (b := 32) dX7_readStore_31 (by decide) rfl ?_
    refine x_zreturn dX7_readStore_32 rfl ⟨Nat.le_refl _, Nat.le_refl _⟩ (by decide) ?_
    cases hF
    exact ⟨rfl, rfl, hL⟩
set_option maxHeartbeats 4000000 in
set_option maxRecDepth 100000 in
theorem u_X7_readStore (E : xE) (d : Nat) (r : Int × Hp) : ∀ n : Nat, (∀ (x1 x2 : Int) (h : Hp), Lay h → g_X7_readStore n 0 [x1, x2] h = some r → X E mX7_readStore (d + 3) (0, 0) (0, 0) 0 [some (xr 7 0), some (xi x1), some (xi x2)] [] h (PoI r)) ∧ (∀ (x1 y0 y1 : Int) (h : Hp), Lay h → g_X7_readStore n 1 [x1, y0, y1] h = some r → X E mX7_readStore (d + 3) (0, 0) (0, 0) 25 [some (xr 7 0), some (xi x1), none] [xi y0, xi y1, xr 7 0] h (PoI r)) := by
  intro n
  induction n with
  | zero => exact ⟨fun _ _ _ _ hF => no_e (r := r) hF, fun _ _ _ _ _ hF => no_e (r := r) hF⟩
  | succ n ih => exact ⟨fun x1 x2 h hL hF => t_X7_readStore_0 E d (g_X7_readStore n) r ih.2 x1 x2 h hL hF, fun x1 y0 y1 h hL hF => t_X7_readStore_1 E d (g_X7_readStore n) r  x1 y0 y1 h hL hF⟩
theorem c_X7_readStore (d : Nat) (x1 x2 : Int) (h : Hp) (r : Int × Hp) (hL : Lay h) (hF : f_X7_readStore x1 x2 h = some r) : Sp mX7_readStore (d + 3) (0, 0) [xr 7 0, xi x1, xi x2] h (PoI r) :=
  sp_of (by decide) rfl (Nat.le_of_ble_eq_true rfl) (ls := [some (xr 7 0), some (xi x1), some (xi x2)]) rfl (fun E _ => (u_X7_readStore E d r FU).1 x1 x2 h hL hF)
theorem dX7_readStorm_0 : decode cX7_readStorm 0 = .ok (.aload_n 0, 1) := by decide +kernel
theorem dX7_readStorm_1 : decode cX7_readStorm 1 = .ok (.bipush 7, 2) := by decide +kernel
theorem dX7_readStorm_3 : decode cX7_readStorm 3 = .ok (.iload_n 1, 1) := by decide +kernel
theorem dX7_readStorm_4 : decode cX7_readStorm 4 = .ok (.invokevirtual 179, 3) := by decide +kernel
theorem dX7_readStorm_7 : decode cX7_readStorm 7 = .ok (.ifCond .eq 13, 3) := by decide +kernel
theorem dX7_readStorm_10 : decode cX7_readStorm 10 = .ok (.aload_n 0, 1) := by decide +kernel
theorem dX7_readStorm_11 : decode cX7_readStorm 11 = .ok (.iconst 0, 1) := by decide +kernel
theorem dX7_readStorm_12 : decode cX7_readStorm 12 = .ok (.bipush 99, 2) := by decide +kernel
theorem dX7_readStorm_14 : decode cX7_readStorm 14 = .ok (.invokevirtual 167, 3) := by decide +kernel
theorem dX7_readStorm_17 : decode cX7_readStorm 17 = .ok (.ifCond .ne 5, 3) := by decide +kernel
theorem dX7_readStorm_20 : decode cX7_readStorm 20 = .ok (.iconst 0, 1) := by decide +kernel
theorem dX7_readStorm_21 : decode cX7_readStorm 21 = .ok (.ireturn, 1) := by decide +kernel
theorem dX7_readStorm_22 : decode cX7_readStorm 22 = .ok (.aload_n 0, 1) := by decide +kernel
theorem dX7_readStorm_23 : decode cX7_readStorm 23 = .ok (.getfield 76, 3) := by decide +kernel
theorem dX7_readStorm_26 : decode cX7_readStorm 26 = .ok (.aload_n 0, 1) := by decide +kernel
theorem dX7_readStorm_27 : decode cX7_readStorm 27 = .ok (.getfield 41, 3) := by decide +kernel
theorem dX7_readStorm_30 : decode cX7_readStorm 30 = .ok (.putfield 238, 3) := by decide +kernel
theorem dX7_readStorm_33 : decode cX7_readStorm 33 = .ok (.aload_n 0, 1) := by decide +kernel
theorem dX7_readStorm_34 : decode cX7_readStorm 34 = .ok (.iconst 1, 1) := by decide +kernel
theorem dX7_readStorm_35 : decode cX7_readStorm 35 = .ok (.bipush 99, 2) := by decide +kernel
theorem dX7_readStorm_37 : decode cX7_readStorm 37 = .ok (.invokevirtual 167, 3) := by decide +kernel
theorem dX7_readStorm_40 : decode cX7_readStorm 40 = .ok (.ifCond .ne 5, 3) := by decide +kernel
theorem dX7_readStorm_43 : decode cX7_readStorm 43 = .ok (.iconst 0, 1) := by decide +kernel
theorem dX7_readStorm_44 : decode cX7_readStorm 44 = .ok (.ireturn, 1) := by decide +kernel
theorem dX7_readStorm_45 : decode cX7_readStorm 45 = .ok (.aload_n 0, 1) := by decide +kernel
theorem dX7_readStorm_46 : decode cX7_readStorm 46 = .ok (.getfield 76, 3) := by decide +kernel
theorem dX7_readStorm_49 : decode cX7_readStorm 49 = .ok (.aload_n 0, 1) := by decide +kernel
theorem dX7_readStorm_50 : decode cX7_readStorm 50 = .ok (.getfield 41, 3) := by decide +kernel
theorem dX7_readStorm_53 : decode cX7_readStorm 53 = .ok (.putfield 241, 3) := by decide +kernel
theorem dX7_readStorm_56 : decode cX7_readStorm 56 = .ok (.iconst 1, 1) := by decide +kernel
theorem dX7_readStorm_57 : decode cX7_readStorm 57 = .ok (.ireturn, 1) := by decide +kernel
noncomputable def b_X7_readStorm_0 (rec : Rk) (x1 : Int) (h : Hp) : Option (Int × Hp) :=
  bd (f_X7_tellOnce 7 x1 h) fun v1 h2 =>
  if v1 = 0 then (
    some (0, h2)
  ) else (
    bd (f_X7_readNumber 0 99 h2) fun v3 h4 =>
    if v3 = 0 then (
      some (0, h4)
    ) else (
      rf (gR h4 7 0 1) 0 fun j5 =>
      lt (sI h4 0 j5 11 (gI h4 7 0 11)) fun h6 =>
      bd (f_X7_readNumber 1 99 h6) fun v7 h8 =>
      if v7 = 0 then (
        some (0, h8)
      ) else (
        rf (gR h8 7 0 1) 0 fun j9 =>
        lt (sI h8 0 j9 12 (gI h8 7 0 11)) fun h10 =>
        some (1, h10)
      )
    )
  )
noncomputable def g_X7_readStorm (n : Nat) : Rk := Nat.rec (motive := fun _ => Rk) (fun _ _ _ => none) (fun _ rec k l h => if k = 0 then b_X7_readStorm_0 rec (l.getD 0 0) h else none) n
noncomputable def f_X7_readStorm (x1 : Int) (h : Hp) : Option (Int × Hp) := g_X7_readStorm FU 0 [x1] h
set_option maxHeartbeats 4000000 in
set_option maxRecDepth 100000 in
theorem t_X7_readStorm_0 (E : xE) (d : Nat) (rec : Rk) (r : Int × Hp) (x1 : Int) (h : Hp) (hL : Lay h) (hF : b_X7_readStorm_0 rec x1 h = some r) : X E mX7_readStorm (d + 3) (0, 0) (0, 0) 0 [some (xr 7 0), some (xi x1)] [] h (PoI r) := by
  unfold b_X7_readStorm_0 at hF
  refine x_aload_n (i := 0) (b := 1) dX7_readStorm_0 rfl rfl rfl ?_
  refine x_bipush (n := 7) (b := 3) dX7_readStorm_1 (by decide) rfl ?_
  refine x_iload_n (i := 1) (b := 4) dX7_readStorm_3 rfl rfl rfl ?_
  obtain ⟨v1, h2, hq, hF⟩ := bd_e hF
  refine x_callV (as := [xi 7, xi x1]) (rest := []) (b := 7) (c_X7_tellOnce d 7 x1 h _ hL hq) dX7_readStorm_4 cw_X7_179 ⟨_, _, rfl, Nat.le_of_ble_eq_true rfl⟩ rfl rfl (Nat.le_of_ble_eq_true rfl) ⟨Nat.le_refl _, Nat.le_refl _⟩ rfl (fun rv hh hp _ => ?_)
  obtain ⟨rfl, rfl, hL⟩ := hp
  refine x_if_eq (tgt := 20) (b := 10) dX7_readStorm_7 (by decide) rfl (fun hc => ?_) (fun hc => ?_)
  · replace hF := br_T hc hF
    refine x_iconst (n := 0) (b := 21) dX7_readStorm_20 (by decide) rfl ?_
    refine x_zreturn dX7_readStorm_21 rfl ⟨Nat.le_refl _, Nat.le_refl _⟩ (by decide) ?_
    cases hF
    exact ⟨rfl, rfl, hL⟩
  · replace hF := br_F hc hF
    refine x_aload_n (i := 0) (b := 11) dX7_readStorm_10 rfl rfl rfl ?_
    refine x_iconst (n := 0) (b := 12) dX7_readStorm_11 (by decide) rfl ?_
    refine x_bipush (n := 99) (b := 14) dX7_readStorm_12 (by decide) rfl ?_
    obtain ⟨v3, h4, hq, hF⟩ := bd_e hF
    refine x_callV (as := [xi 0, xi 99]) (rest := []) (b := 17) (c_X7_readNumber d 0 99 h2 _ hL hq) dX7_readStorm_14 cw_X7_167 ⟨_, _, rfl, Nat.le_of_ble_eq_true rfl⟩ rfl rfl (Nat.le_of_ble_eq_true rfl) ⟨Nat.le_refl _, Nat.le_refl _⟩ rfl (fun rv hh hp _ => ?_)
    obtain ⟨rfl, rfl, hL⟩ := hp
    refine x_if_ne (tgt := 22) (b := 20) dX7_readStorm_17 (by decide) rfl (fun hc => ?_) (fun hc => ?_)
    · replace hF := br_F hc hF
      refine x_aload_n (i := 0) (b := 23) dX7_readStorm_22 rfl rfl rfl ?_
      obtain ⟨j5, e_j5, hF⟩ := rf_e hF
      refine x_getR (v := some (0, j5)) (b := 26) fk_X7_76 dX7_readStorm_23 rfl e_j5 rfl ?_
      refine x_aload_n (i := 0) (b := 27) dX7_readStorm_26 rfl rfl rfl ?_
      refine x_getI (v := gI h4 7 0 11) (b := 30) fk_X7_41 dX7_readStorm_27 (by decide) rfl rfl ?_
      refine x_putI (b := 33) fk_X7_238 dX7_readStorm_30 rfl rfl 11 rfl ?_
      obtain ⟨h6, e_h6, hF⟩ := lt_e hF
      refine x_hp (h2 := h6) e_h6 ?_
      replace hL : Lay h6 := by rw [← e_h6]; exact hL
      refine x_aload_n (i := 0) (b := 34) dX7_readStorm_33 rfl rfl rfl ?_
      refine x_iconst (n := 1) (b := 35) dX7_readStorm_34 (by decide) rfl ?_
      refine x_bipush (n := 99) (b := 37) dX7_readStorm_35 (by decide) rfl ?_
      obtain ⟨v7, h8, hq, hF⟩ := bd_e hF
      refine x_callV (as := [xi 1, xi 99]) (rest := []) (b := 40) (c_X7_readNumber d 1 99 h6 _ hL hq) dX7_readStorm_37 cw_X7_167 ⟨_, _, rfl, Nat.le_of_ble_eq_true rfl⟩ rfl rfl (Nat.le_of_ble_eq_true rfl) ⟨Nat.le_refl _, Nat.le_refl _⟩ rfl (fun rv hh hp _ => ?_)
      obtain ⟨rfl, rfl, hL⟩ := hp
      refine x_if_ne (tgt := 45) (b := 43) dX7_readStorm_40 (by decide) rfl (fun hc => ?_) (fun hc => ?_)
      · replace hF := br_F hc hF
        refine x_aload_n (i := 0) (b := 46) dX7_readStorm_45 rfl rfl rfl ?_
        obtain ⟨j9, e_j9, hF⟩ := rf_e hF
        refine x_getR (v := some (0, j9)) (b := 49) fk_X7_76 dX7_readStorm_46 rfl e_j9 rfl ?_
        refine x_aload_n (i := 0) (b := 50) dX7_readStorm_49 rfl rfl rfl ?_
        refine x_getI (v := gI h8 7 0 11) (b := 53) fk_X7_41 dX7_readStorm_50 (by decide) rfl rfl ?_
        refine x_putI (b := 56) fk_X7_241 dX7_readStorm_53 rfl rfl 12 rfl ?_
        obtain ⟨h10, e_h10, hF⟩ := lt_e hF
        refine x_hp (h2 := h10) e_h10 ?_
        replace hL : Lay h10 := by rw [← e_h10]; exact hL
        refine x_iconst (n := 1) (b := 57) dX7_readStorm_56 (by decide) rfl ?_
        refine x_zreturn dX7_readStorm_57 rfl ⟨Nat.le_refl _, Nat.le_refl _⟩ (by decide) ?_
        cases hF
        exact ⟨rfl, rfl, hL⟩
      · replace hF := br_T hc hF
        refine x_iconst (n := 0) (b := 44) dX7_readStorm_43 (by decide) rfl ?_
        refine x_zreturn dX7_readStorm_44 rfl ⟨Nat.le_refl _, Nat.le_refl _⟩ (by decide) ?_
        cases hF
        exact ⟨rfl, rfl, hL⟩
    · replace hF := br_T hc hF
      refine x_iconst (n := 0) (b := 21) dX7_readStorm_20 (by decide) rfl ?_
      refine x_zreturn dX7_readStorm_21 rfl ⟨Nat.le_refl _, Nat.le_refl _⟩ (by decide) ?_
      cases hF
      exact ⟨rfl, rfl, hL⟩
set_option maxHeartbeats 4000000 in
set_option maxRecDepth 100000 in
theorem u_X7_readStorm (E : xE) (d : Nat) (r : Int × Hp) : ∀ n : Nat, (∀ (x1 : Int) (h : Hp), Lay h → g_X7_readStorm n 0 [x1] h = some r → X E mX7_readStorm (d + 3) (0, 0) (0, 0) 0 [some (xr 7 0), some (xi x1)] [] h (PoI r)) := by
  intro n
  induction n with
  | zero => exact fun _ _ _ hF => no_e (r := r) hF
  | succ n ih => exact fun x1 h hL hF => t_X7_readStorm_0 E d (g_X7_readStorm n) r  x1 h hL hF
theorem c_X7_readStorm (d : Nat) (x1 : Int) (h : Hp) (r : Int × Hp) (hL : Lay h) (hF : f_X7_readStorm x1 h = some r) : Sp mX7_readStorm (d + 3) (0, 0) [xr 7 0, xi x1] h (PoI r) :=
  sp_of (by decide) rfl (Nat.le_of_ble_eq_true rfl) (ls := [some (xr 7 0), some (xi x1)]) rfl (fun E _ => (u_X7_readStorm E d r FU) x1 h hL hF)
theorem dX7_readWind_0 : decode cX7_readWind 0 = .ok (.aload_n 0, 1) := by decide +kernel
theorem dX7_readWind_1 : decode cX7_readWind 1 = .ok (.iconst 5, 1) := by decide +kernel
theorem dX7_readWind_2 : decode cX7_readWind 2 = .ok (.iload_n 1, 1) := by decide +kernel
theorem dX7_readWind_3 : decode cX7_readWind 3 = .ok (.invokevirtual 179, 3) := by decide +kernel
theorem dX7_readWind_6 : decode cX7_readWind 6 = .ok (.ifCond .ne 5, 3) := by decide +kernel
theorem dX7_readWind_9 : decode cX7_readWind 9 = .ok (.iconst 0, 1) := by decide +kernel
theorem dX7_readWind_10 : decode cX7_readWind 10 = .ok (.ireturn, 1) := by decide +kernel
theorem dX7_readWind_11 : decode cX7_readWind 11 = .ok (.iconst 0, 1) := by decide +kernel
theorem dX7_readWind_12 : decode cX7_readWind 12 = .ok (.istore_n 2, 1) := by decide +kernel
theorem dX7_readWind_13 : decode cX7_readWind 13 = .ok (.iload_n 2, 1) := by decide +kernel
theorem dX7_readWind_14 : decode cX7_readWind 14 = .ok (.bipush 8, 2) := by decide +kernel
theorem dX7_readWind_16 : decode cX7_readWind 16 = .ok (.if_icmp .gt 71, 3) := by decide +kernel
theorem dX7_readWind_19 : decode cX7_readWind 19 = .ok (.iload_n 2, 1) := by decide +kernel
theorem dX7_readWind_20 : decode cX7_readWind 20 = .ok (.ifCond .eq 11, 3) := by decide +kernel
theorem dX7_readWind_23 : decode cX7_readWind 23 = .ok (.aload_n 0, 1) := by decide +kernel
theorem dX7_readWind_24 : decode cX7_readWind 24 = .ok (.getfield 26, 3) := by decide +kernel
theorem dX7_readWind_27 : decode cX7_readWind 27 = .ok (.iconst 3, 1) := by decide +kernel
theorem dX7_readWind_28 : decode cX7_readWind 28 = .ok (.if_icmp .ne 59, 3) := by decide +kernel
theorem dX7_readWind_31 : decode cX7_readWind 31 = .ok (.iload_n 2, 1) := by decide +kernel
theorem dX7_readWind_32 : decode cX7_readWind 32 = .ok (.bipush 8, 2) := by decide +kernel
theorem dX7_readWind_34 : decode cX7_readWind 34 = .ok (.if_icmp .ne 13, 3) := by decide +kernel
theorem dX7_readWind_37 : decode cX7_readWind 37 = .ok (.aload_n 0, 1) := by decide +kernel
theorem dX7_readWind_38 : decode cX7_readWind 38 = .ok (.iconst 2, 1) := by decide +kernel
theorem dX7_readWind_39 : decode cX7_readWind 39 = .ok (.aload_n 0, 1) := by decide +kernel
theorem dX7_readWind_40 : decode cX7_readWind 40 = .ok (.getfield 29, 3) := by decide +kernel
theorem dX7_readWind_43 : decode cX7_readWind 43 = .ok (.invokevirtual 149, 3) := by decide +kernel
theorem dX7_readWind_46 : decode cX7_readWind 46 = .ok (.ireturn, 1) := by decide +kernel
theorem dX7_readWind_47 : decode cX7_readWind 47 = .ok (.aload_n 0, 1) := by decide +kernel
theorem dX7_readWind_48 : decode cX7_readWind 48 = .ok (.iconst 0, 1) := by decide +kernel
theorem dX7_readWind_49 : decode cX7_readWind 49 = .ok (.iconst 3, 1) := by decide +kernel
theorem dX7_readWind_50 : decode cX7_readWind 50 = .ok (.invokevirtual 167, 3) := by decide +kernel
theorem dX7_readWind_53 : decode cX7_readWind 53 = .ok (.ifCond .ne 5, 3) := by decide +kernel
theorem dX7_readWind_56 : decode cX7_readWind 56 = .ok (.iconst 0, 1) := by decide +kernel
theorem dX7_readWind_57 : decode cX7_readWind 57 = .ok (.ireturn, 1) := by decide +kernel
theorem dX7_readWind_58 : decode cX7_readWind 58 = .ok (.aload_n 0, 1) := by decide +kernel
theorem dX7_readWind_59 : decode cX7_readWind 59 = .ok (.getfield 76, 3) := by decide +kernel
theorem dX7_readWind_62 : decode cX7_readWind 62 = .ok (.getfield 220, 3) := by decide +kernel
theorem dX7_readWind_65 : decode cX7_readWind 65 = .ok (.iload_n 2, 1) := by decide +kernel
theorem dX7_readWind_66 : decode cX7_readWind 66 = .ok (.aload_n 0, 1) := by decide +kernel
theorem dX7_readWind_67 : decode cX7_readWind 67 = .ok (.getfield 41, 3) := by decide +kernel
theorem dX7_readWind_70 : decode cX7_readWind 70 = .ok (.iastore, 1) := by decide +kernel
theorem dX7_readWind_71 : decode cX7_readWind 71 = .ok (.aload_n 0, 1) := by decide +kernel
theorem dX7_readWind_72 : decode cX7_readWind 72 = .ok (.getfield 76, 3) := by decide +kernel
theorem dX7_readWind_75 : decode cX7_readWind 75 = .ok (.iload_n 2, 1) := by decide +kernel
theorem dX7_readWind_76 : decode cX7_readWind 76 = .ok (.iconst 1, 1) := by decide +kernel
theorem dX7_readWind_77 : decode cX7_readWind 77 = .ok (.iadd, 1) := by decide +kernel
theorem dX7_readWind_78 : decode cX7_readWind 78 = .ok (.putfield 223, 3) := by decide +kernel
theorem dX7_readWind_81 : decode cX7_readWind 81 = .ok (.iinc 2 1, 3) := by decide +kernel
theorem dX7_readWind_84 : decode cX7_readWind 84 = .ok (.goto (-71), 3) := by decide +kernel
theorem dX7_readWind_87 : decode cX7_readWind 87 = .ok (.iconst 1, 1) := by decide +kernel
theorem dX7_readWind_88 : decode cX7_readWind 88 = .ok (.ireturn, 1) := by decide +kernel
noncomputable def b_X7_readWind_0 (rec : Rk) (x1 : Int) (h : Hp) : Option (Int × Hp) :=
  bd (f_X7_tellOnce 5 x1 h) fun v1 h2 =>
  if v1 = 0 then (
    some (0, h2)
  ) else (
    rec 1 [0] h2
  )
noncomputable def b_X7_readWind_1 (rec : Rk) (x2 : Int) (h : Hp) : Option (Int × Hp) :=
  if 8 < x2 then (
    some (1, h)
  ) else (
    if x2 = 0 then (
      rec 2 [x2] h
    ) else (
      if (gI h 7 0 6) = 3 then (
        rec 2 [x2] h
      ) else (
        some (1, h)
      )
    )
  )
noncomputable def b_X7_readWind_2 (rec : Rk) (x2 : Int) (h : Hp) : Option (Int × Hp) :=
  if x2 = 8 then (
    bd (f_X7_wrong 2 (gI h 7 0 7) h) fun v1 h2 =>
    ck (0 ≤ v1 ∧ v1 < 2) <|
    some (v1, h2)
  ) else (
    bd (f_X7_readNumber 0 3 h) fun v3 h4 =>
    if v3 = 0 then (
      some (0, h4)
    ) else (
      rf (gR h4 7 0 1) 0 fun j5 =>
      ck (0 ≤ x2 ∧ x2 < 8) <|
      lt (sI h4 21 j5 x2 (gI h4 7 0 11)) fun h6 =>
      rf (gR h6 7 0 1) 0 fun j7 =>
      ck (-2147483648 ≤ x2 + 1 ∧ x2 + 1 < 2147483648) <|
      lt (sI h6 0 j7 6 (x2 + 1)) fun h8 =>
      ck (-2147483648 ≤ x2 + 1 ∧ x2 + 1 < 2147483648) <|
      rec 1 [x2 + 1] h8
    )
  )
noncomputable def g_X7_readWind (n : Nat) : Rk := Nat.rec (motive := fun _ => Rk) (fun _ _ _ => none) (fun _ rec k l h => if k = 0 then b_X7_readWind_0 rec (l.getD 0 0) h else if k = 1 then b_X7_readWind_1 rec (l.getD 0 0) h else if k = 2 then b_X7_readWind_2 rec (l.getD 0 0) h else none) n
noncomputable def f_X7_readWind (x1 : Int) (h : Hp) : Option (Int × Hp) := g_X7_readWind FU 0 [x1] h
set_option maxHeartbeats 4000000 in
set_option maxRecDepth 100000 in
theorem t_X7_readWind_0 (E : xE) (d : Nat) (rec : Rk) (r : Int × Hp) (hr_13 : ∀ (x2 : Int) (h : Hp), Lay h → rec 1 [x2] h = some r → X E mX7_readWind (d + 3) (0, 0) (0, 0) 13 [some (xr 7 0), none, some (xi x2)] [] h (PoI r)) (x1 : Int) (h : Hp) (hL : Lay h) (hF : b_X7_readWind_0 rec x1 h = some r) : X E mX7_readWind (d + 3) (0, 0) (0, 0) 0 [some (xr 7 0), some (xi x1), none] [] h (PoI r) := by
  unfold b_X7_readWind_0 at hF
  refine x_aload_n (i := 0) (b := 1) dX7_readWind_0 rfl rfl rfl ?_
  refine x_iconst (n := 5) (b := 2) dX7_readWind_1 (by decide) rfl ?_
  refine x_iload_n (i := 1) (b := 3) dX7_readWind_2 rfl rfl rfl ?_
  obtain ⟨v1, h2, hq, hF⟩ := bd_e hF
  refine x_callV (as := [xi 5, xi x1]) (rest := []) (b := 6) (c_X7_tellOnce d 5 x1 h _ hL hq) dX7_readWind_3 cw_X7_179 ⟨_, _, rfl, Nat.le_of_ble_eq_true rfl⟩ rfl rfl (Nat.le_of_ble_eq_true rfl) ⟨Nat.le_refl _, Nat.le_refl _⟩ rfl (fun rv hh hp _ => ?_)
  obtain ⟨rfl, rfl, hL⟩ := hp
  refine x_if_ne (tgt := 11) (b := 9) dX7_readWind_6 (by decide) rfl (fun hc => ?_) (fun hc => ?_)
  · replace hF := br_F hc hF
    refine x_iconst (n := 0) (b := 12) dX7_readWind_11 (by decide) rfl ?_
    refine x_istore_n (i := 2) (b := 13) (ls2 := [some (xr 7 0), some (xi x1), some (xi 0)]) dX7_readWind_12 rfl (Nat.le_of_ble_eq_true rfl) rfl rfl ?_
    exact x_dp (ls2 := [some (xr 7 0), none, some (xi 0)]) ⟨rfl, rfl, trivial⟩ (hr_13 0 h2 hL hF)
  · replace hF := br_T hc hF
    refine x_iconst (n := 0) (b := 10) dX7_readWind_9 (by decide) rfl ?_
    refine x_zreturn dX7_readWind_10 rfl ⟨Nat.le_refl _, Nat.le_refl _⟩ (by decide) ?_
    cases hF
    exact ⟨rfl, rfl, hL⟩
set_option maxHeartbeats 4000000 in
set_option maxRecDepth 100000 in
theorem t_X7_readWind_1 (E : xE) (d : Nat) (rec : Rk) (r : Int × Hp) (hr_31 : ∀ (x2 : Int) (h : Hp), Lay h → rec 2 [x2] h = some r → X E mX7_readWind (d + 3) (0, 0) (0, 0) 31 [some (xr 7 0), none, some (xi x2)] [] h (PoI r)) (x2 : Int) (h : Hp) (hL : Lay h) (hF : b_X7_readWind_1 rec x2 h = some r) : X E mX7_readWind (d + 3) (0, 0) (0, 0) 13 [some (xr 7 0), none, some (xi x2)] [] h (PoI r) := by
  unfold b_X7_readWind_1 at hF
  refine x_iload_n (i := 2) (b := 14) dX7_readWind_13 rfl rfl rfl ?_
  refine x_bipush (n := 8) (b := 16) dX7_readWind_14 (by decide) rfl ?_
  refine x_icmp_gt (tgt := 87) (b := 19) dX7_readWind_16 (by decide) rfl (fun hc => ?_) (fun hc => ?_)
  · replace hF := br_T hc hF
    refine x_iconst (n := 1) (b := 88) dX7_readWind_87 (by decide) rfl ?_
    refine x_zreturn dX7_readWind_88 rfl ⟨Nat.le_refl _, Nat.le_refl _⟩ (by decide) ?_
    cases hF
    exact ⟨rfl, rfl, hL⟩
  · replace hF := br_F hc hF
    refine x_iload_n (i := 2) (b := 20) dX7_readWind_19 rfl rfl rfl ?_
    refine x_if_eq (tgt := 31) (b := 23) dX7_readWind_20 (by decide) rfl (fun hc => ?_) (fun hc => ?_)
    · replace hF := br_T hc hF
      exact x_dp (ls2 := [some (xr 7 0), none, some (xi x2)]) ⟨rfl, rfl, trivial⟩ (hr_31 x2 h hL hF)
    · replace hF := br_F hc hF
      refine x_aload_n (i := 0) (b := 24) dX7_readWind_23 rfl rfl rfl ?_
      refine x_getI (v := gI h 7 0 6) (b := 27) fk_X7_26 dX7_readWind_24 (by decide) rfl rfl ?_
      refine x_iconst (n := 3) (b := 28) dX7_readWind_27 (by decide) rfl ?_
      refine x_icmp_ne (tgt := 87) (b := 31) dX7_readWind_28 (by decide) rfl (fun hc => ?_) (fun hc => ?_)
      · replace hF := br_F hc hF
        refine x_iconst (n := 1) (b := 88) dX7_readWind_87 (by decide) rfl ?_
        refine x_zreturn dX7_readWind_88 rfl ⟨Nat.le_refl _, Nat.le_refl _⟩ (by decide) ?_
        cases hF
        exact ⟨rfl, rfl, hL⟩
      · replace hF := br_T hc hF
        exact x_dp (ls2 := [some (xr 7 0), none, some (xi x2)]) ⟨rfl, rfl, trivial⟩ (hr_31 x2 h hL hF)
set_option maxHeartbeats 4000000 in
set_option maxRecDepth 100000 in
theorem t_X7_readWind_2 (E : xE) (d : Nat) (rec : Rk) (r : Int × Hp) (hr_13 : ∀ (x2 : Int) (h : Hp), Lay h → rec 1 [x2] h = some r → X E mX7_readWind (d + 3) (0, 0) (0, 0) 13 [some (xr 7 0), none, some (xi x2)] [] h (PoI r)) (x2 : Int) (h : Hp) (hL : Lay h) (hF : b_X7_readWind_2 rec x2 h = some r) : X E mX7_readWind (d + 3) (0, 0) (0, 0) 31 [some (xr 7 0), none, some (xi x2)] [] h (PoI r) := by
  unfold b_X7_readWind_2 at hF
  refine x_iload_n (i := 2) (b := 32) dX7_readWind_31 rfl rfl rfl ?_
  refine x_bipush (n := 8) (b := 34) dX7_readWind_32 (by decide) rfl ?_
  refine x_icmp_ne (tgt := 47) (b := 37) dX7_readWind_34 (by decide) rfl (fun hc => ?_) (fun hc => ?_)
  · replace hF := br_F hc hF
    refine x_aload_n (i := 0) (b := 48) dX7_readWind_47 rfl rfl rfl ?_
    refine x_iconst (n := 0) (b := 49) dX7_readWind_48 (by decide) rfl ?_
    refine x_iconst (n := 3) (b := 50) dX7_readWind_49 (by decide) rfl ?_
    obtain ⟨v3, h4, hq, hF⟩ := bd_e hF
    refine x_callV (as := [xi 0, xi 3]) (rest := []) (b := 53) (c_X7_readNumber d 0 3 h _ hL hq) dX7_readWind_50 cw_X7_167 ⟨_, _, rfl, Nat.le_of_ble_eq_true rfl⟩ rfl rfl (Nat.le_of_ble_eq_true rfl) ⟨Nat.le_refl _, Nat.le_refl _⟩ rfl (fun rv hh hp _ => ?_)
    obtain ⟨rfl, rfl, hL⟩ := hp
    refine x_if_ne (tgt := 58) (b := 56) dX7_readWind_53 (by decide) rfl (fun hc => ?_) (fun hc => ?_)
    · replace hF := br_F hc hF
      refine x_aload_n (i := 0) (b := 59) dX7_readWind_58 rfl rfl rfl ?_
      obtain ⟨j5, e_j5, hF⟩ := rf_e hF
      refine x_getR (v := some (0, j5)) (b := 62) fk_X7_76 dX7_readWind_59 rfl e_j5 rfl ?_
      refine x_getL (j := j5) (t := (21, 0, true)) (b := 65) fk_X7_220 dX7_readWind_62 rfl hL rfl rfl rfl ?_
      refine x_iload_n (i := 2) (b := 66) dX7_readWind_65 rfl rfl rfl ?_
      refine x_aload_n (i := 0) (b := 67) dX7_readWind_66 rfl rfl rfl ?_
      refine x_getI (v := gI h4 7 0 11) (b := 70) fk_X7_41 dX7_readWind_67 (by decide) rfl rfl ?_
      obtain ⟨hs, hF⟩ := ck_e hF
      have hs1 := hs
      refine x_iast (b := 71) ak_21 dX7_readWind_70 hs1 rfl ?_
      obtain ⟨h6, e_h6, hF⟩ := lt_e hF
      refine x_hp (h2 := h6) e_h6 ?_
      replace hL : Lay h6 := by rw [← e_h6]; exact hL
      refine x_aload_n (i := 0) (b := 72) dX7_readWind_71 rfl rfl rfl ?_
      obtain ⟨j7, e_j7, hF⟩ := rf_e hF
      refine x_getR (v := some (0, j7)) (b := 75) fk_X7_76 dX7_readWind_72 rfl e_j7 rfl ?_
      refine x_iload_n (i := 2) (b := 76) dX7_readWind_75 rfl rfl rfl ?_
      refine x_iconst (n := 1) (b := 77) dX7_readWind_76 (by decide) rfl ?_
      obtain ⟨hs, hF⟩ := ck_e hF
      refine x_iadd (b := 78) dX7_readWind_77 hs rfl ?_
      refine x_putI (b := 81) fk_X7_223 dX7_readWind_78 rfl rfl 6 rfl ?_
      obtain ⟨h8, e_h8, hF⟩ := lt_e hF
      refine x_hp (h2 := h8) e_h8 ?_
      replace hL : Lay h8 := by rw [← e_h8]; exact hL
      obtain ⟨hs, hF⟩ := ck_e hF
      refine x_iinc (i := 2) (b := 84) (ls2 := [some (xr 7 0), none, some (xi (x2 + 1))]) dX7_readWind_81 rfl (Nat.le_of_ble_eq_true rfl) hs rfl rfl ?_
      refine x_goto (tgt := 13) dX7_readWind_84 (by decide) ?_
      exact x_dp (ls2 := [some (xr 7 0), none, some (xi (x2 + 1))]) ⟨rfl, rfl, trivial⟩ (hr_13 (x2 + 1) h8 hL hF)
    · replace hF := br_T hc hF
      refine x_iconst (n := 0) (b := 57) dX7_readWind_56 (by decide) rfl ?_
      refine x_zreturn dX7_readWind_57 rfl ⟨Nat.le_refl _, Nat.le_refl _⟩ (by decide) ?_
      cases hF
      exact ⟨rfl, rfl, hL⟩
  · replace hF := br_T hc hF
    refine x_aload_n (i := 0) (b := 38) dX7_readWind_37 rfl rfl rfl ?_
    refine x_iconst (n := 2) (b := 39) dX7_readWind_38 (by decide) rfl ?_
    refine x_aload_n (i := 0) (b := 40) dX7_readWind_39 rfl rfl rfl ?_
    refine x_getI (v := gI h 7 0 7) (b := 43) fk_X7_29 dX7_readWind_40 (by decide) rfl rfl ?_
    obtain ⟨v1, h2, hq, hF⟩ := bd_e hF
    refine x_callV (as := [xi 2, xi (gI h 7 0 7)]) (rest := []) (b := 46) (c_X7_wrong (d + 1) 2 (gI h 7 0 7) h _ hL hq) dX7_readWind_43 cw_X7_149 ⟨_, _, rfl, Nat.le_of_ble_eq_true rfl⟩ rfl rfl (Nat.le_of_ble_eq_true rfl) ⟨Nat.le_refl _, Nat.le_refl _⟩ rfl (fun rv hh hp _ => ?_)
    obtain ⟨rfl, rfl, hL⟩ := hp
    obtain ⟨hs, hF⟩ := ck_e hF
    refine x_zreturn dX7_readWind_46 rfl ⟨Nat.le_refl _, Nat.le_refl _⟩ hs ?_
    cases hF
    exact ⟨rfl, rfl, hL⟩
set_option maxHeartbeats 4000000 in
set_option maxRecDepth 100000 in
theorem u_X7_readWind (E : xE) (d : Nat) (r : Int × Hp) : ∀ n : Nat, (∀ (x1 : Int) (h : Hp), Lay h → g_X7_readWind n 0 [x1] h = some r → X E mX7_readWind (d + 3) (0, 0) (0, 0) 0 [some (xr 7 0), some (xi x1), none] [] h (PoI r)) ∧ (∀ (x2 : Int) (h : Hp), Lay h → g_X7_readWind n 1 [x2] h = some r → X E mX7_readWind (d + 3) (0, 0) (0, 0) 13 [some (xr 7 0), none, some (xi x2)] [] h (PoI r)) ∧ (∀ (x2 : Int) (h : Hp), Lay h → g_X7_readWind n 2 [x2] h = some r → X E mX7_readWind (d + 3) (0, 0) (0, 0) 31 [some (xr 7 0), none, some (xi x2)] [] h (PoI r)) := by
  intro n
  induction n with
  | zero => exact ⟨fun _ _ _ hF => no_e (r := r) hF, fun _ _ _ hF => no_e (r := r) hF, fun _ _ _ hF => no_e (r := r) hF⟩
  | succ n ih => exact ⟨fun x1 h hL hF => t_X7_readWind_0 E d (g_X7_readWind n) r ih.2.1 x1 h hL hF, fun x2 h hL hF => t_X7_readWind_1 E d (g_X7_readWind n) r ih.2.2 x2 h hL hF, fun x2 h hL hF => t_X7_readWind_2 E d (g_X7_readWind n) r ih.2.1 x2 h hL hF⟩
theorem c_X7_readWind (d : Nat) (x1 : Int) (h : Hp) (r : Int × Hp) (hL : Lay h) (hF : f_X7_readWind x1 h = some r) : Sp mX7_readWind (d + 3) (0, 0) [xr 7 0, xi x1] h (PoI r) :=
  sp_of (by decide) rfl (Nat.le_of_ble_eq_true rfl) (ls := [some (xr 7 0), some (xi x1), none]) rfl (fun E _ => (u_X7_readWind E d r FU).1 x1 h hL hF)
theorem dX9_between_0 : decode cX9_between 0 = .ok (.aload_n 0, 1) := by decide +kernel
theorem dX9_between_1 : decode cX9_between 1 = .ok (.iload_n 1, 1) := by decide +kernel
theorem dX9_between_2 : decode cX9_between 2 = .ok (.iconst 4, 1) := by decide +kernel
theorem dX9_between_3 : decode cX9_between 3 = .ok (.invokevirtual 57, 3) := by decide +kernel
theorem dX9_between_6 : decode cX9_between 6 = .ok (.iload_n 2, 1) := by decide +kernel
theorem dX9_between_7 : decode cX9_between 7 = .ok (.ifCond .lt 22, 3) := by decide +kernel
theorem dX9_between_10 : decode cX9_between 10 = .ok (.iload_n 2, 1) := by decide +kernel
theorem dX9_between_11 : decode cX9_between 11 = .ok (.bipush 64, 2) := by decide +kernel
theorem dX9_between_13 : decode cX9_between 13 = .ok (.if_icmp .ge 16, 3) := by decide +kernel
theorem dX9_between_16 : decode cX9_between 16 = .ok (.aload_n 0, 1) := by decide +kernel
theorem dX9_between_17 : decode cX9_between 17 = .ok (.getfield 47, 3) := by decide +kernel
theorem dX9_between_20 : decode cX9_between 20 = .ok (.sipush 256, 3) := by decide +kernel
theorem dX9_between_23 : decode cX9_between 23 = .ok (.iload_n 2, 1) := by decide +kernel
theorem dX9_between_24 : decode cX9_between 24 = .ok (.iadd, 1) := by decide +kernel
theorem dX9_between_25 : decode cX9_between 25 = .ok (.iaload, 1) := by decide +kernel
theorem dX9_between_26 : decode cX9_between 26 = .ok (.goto 5, 3) := by decide +kernel
theorem dX9_between_29 : decode cX9_between 29 = .ok (.bipush 99, 2) := by decide +kernel
theorem dX9_between_31 : decode cX9_between 31 = .ok (.ireturn, 1) := by decide +kernel
noncomputable def b_X9_between_0 (rec : Rk) (x0 x1 x2 : Int) (h : Hp) : Option (Int × Hp) :=
  bd (f_X9_spread x0 x1 4 h) fun v1 h2 =>
  if x2 < 0 then (
    some (99, h2)
  ) else (
    if 64 ≤ x2 then (
      some (99, h2)
    ) else (
      ck (-2147483648 ≤ 256 + x2 ∧ 256 + x2 < 2147483648) <|
      ck (0 ≤ (256 + x2) ∧ (256 + x2) < 320) <|
      some (gI h2 55 x0 (256 + x2), h2)
    )
  )
noncomputable def g_X9_between (n : Nat) : Rk := Nat.rec (motive := fun _ => Rk) (fun _ _ _ => none) (fun _ rec k l h => if k = 0 then b_X9_between_0 rec (l.getD 0 0) (l.getD 1 0) (l.getD 2 0) h else none) n
noncomputable def f_X9_between (x0 x1 x2 : Int) (h : Hp) : Option (Int × Hp) := g_X9_between FU 0 [x0, x1, x2] h
set_option maxHeartbeats 4000000 in
set_option maxRecDepth 100000 in
theorem t_X9_between_0 (E : xE) (d : Nat) (rec : Rk) (r : Int × Hp) (x0 x1 x2 : Int) (h : Hp) (hL : Lay h) (hF : b_X9_between_0 rec x0 x1 x2 h = some r) : X E mX9_between (d + 4) (0, 0) (0, 0) 0 [some (xr 9 x0), some (xi x1), some (xi x2)] [] h (PoI r) := by
  unfold b_X9_between_0 at hF
  refine x_aload_n (i := 0) (b := 1) dX9_between_0 rfl rfl rfl ?_
  refine x_iload_n (i := 1) (b := 2) dX9_between_1 rfl rfl rfl ?_
  refine x_iconst (n := 4) (b := 3) dX9_between_2 (by decide) rfl ?_
  obtain ⟨v1, h2, hq, hF⟩ := bd_e hF
  refine x_callV (as := [xi x1, xi 4]) (rest := []) (b := 6) (c_X9_spread d x0 x1 4 h _ hL hq) dX9_between_3 cw_X9_57 ⟨_, _, rfl, Nat.le_of_ble_eq_true rfl⟩ rfl rfl (Nat.le_of_ble_eq_true rfl) ⟨Nat.le_refl _, Nat.le_refl _⟩ rfl (fun rv hh hp _ => ?_)
  obtain ⟨rfl, rfl, hL⟩ := hp
  refine x_iload_n (i := 2) (b := 7) dX9_between_6 rfl rfl rfl ?_
  refine x_if_lt (tgt := 29) (b := 10) dX9_between_7 (by decide) rfl (fun hc => ?_) (fun hc => ?_)
  · replace hF := br_T hc hF
    refine x_bipush (n := 99) (b := 31) dX9_between_29 (by decide) rfl ?_
    refine x_ireturn dX9_between_31 rfl ⟨Nat.le_refl _, Nat.le_refl _⟩ ?_
    cases hF
    exact ⟨rfl, rfl, hL⟩
  · replace hF := br_F hc hF
    refine x_iload_n (i := 2) (b := 11) dX9_between_10 rfl rfl rfl ?_
    refine x_bipush (n := 64) (b := 13) dX9_between_11 (by decide) rfl ?_
    refine x_icmp_ge (tgt := 29) (b := 16) dX9_between_13 (by decide) rfl (fun hc => ?_) (fun hc => ?_)
    · replace hF := br_T hc hF
      refine x_bipush (n := 99) (b := 31) dX9_between_29 (by decide) rfl ?_
      refine x_ireturn dX9_between_31 rfl ⟨Nat.le_refl _, Nat.le_refl _⟩ ?_
      cases hF
      exact ⟨rfl, rfl, hL⟩
    · replace hF := br_F hc hF
      refine x_aload_n (i := 0) (b := 17) dX9_between_16 rfl rfl rfl ?_
      refine x_getL (j := x0) (t := (55, 0, true)) (b := 20) fk_X9_47 dX9_between_17 rfl hL rfl rfl rfl ?_
      refine x_sipush (n := 256) (b := 23) dX9_between_20 (by decide) rfl ?_
      refine x_iload_n (i := 2) (b := 24) dX9_between_23 rfl rfl rfl ?_
      obtain ⟨hs, hF⟩ := ck_e hF
      refine x_iadd (b := 25) dX9_between_24 hs rfl ?_
      obtain ⟨hs, hF⟩ := ck_e hF
      refine x_iald (v := gI h2 55 x0 (256 + x2)) (b := 26) ak_55 dX9_between_25 hs rfl rfl ?_
      refine x_goto (tgt := 31) dX9_between_26 (by decide) ?_
      refine x_ireturn dX9_between_31 rfl ⟨Nat.le_refl _, Nat.le_refl _⟩ ?_
      cases hF
      exact ⟨rfl, rfl, hL⟩
set_option maxHeartbeats 4000000 in
set_option maxRecDepth 100000 in
theorem u_X9_between (E : xE) (d : Nat) (r : Int × Hp) : ∀ n : Nat, (∀ (x0 x1 x2 : Int) (h : Hp), Lay h → g_X9_between n 0 [x0, x1, x2] h = some r → X E mX9_between (d + 4) (0, 0) (0, 0) 0 [some (xr 9 x0), some (xi x1), some (xi x2)] [] h (PoI r)) := by
  intro n
  induction n with
  | zero => exact fun _ _ _ _ _ hF => no_e (r := r) hF
  | succ n ih => exact fun x0 x1 x2 h hL hF => t_X9_between_0 E d (g_X9_between n) r  x0 x1 x2 h hL hF
theorem c_X9_between (d : Nat) (x0 x1 x2 : Int) (h : Hp) (r : Int × Hp) (hL : Lay h) (hF : f_X9_between x0 x1 x2 h = some r) : Sp mX9_between (d + 4) (0, 0) [xr 9 x0, xi x1, xi x2] h (PoI r) :=
  sp_of (by decide) rfl (Nat.le_of_ble_eq_true rfl) (ls := [some (xr 9 x0), some (xi x1), some (xi x2)]) rfl (fun E _ => (u_X9_between E d r FU) x0 x1 x2 h hL hF)
theorem dX9_measure_0 : decode cX9_measure 0 = .ok (.iconst 0, 1) := by decide +kernel
theorem dX9_measure_1 : decode cX9_measure 1 = .ok (.istore_n 1, 1) := by decide +kernel
theorem dX9_measure_2 : decode cX9_measure 2 = .ok (.iload_n 1, 1) := by decide +kernel
theorem dX9_measure_3 : decode cX9_measure 3 = .ok (.aload_n 0, 1) := by decide +kernel
theorem dX9_measure_4 : decode cX9_measure 4 = .ok (.getfield 31, 3) := by decide +kernel
theorem dX9_measure_7 : decode cX9_measure 7 = .ok (.if_icmp .ge 25, 3) := by decide +kernel
theorem dX9_measure_10 : decode cX9_measure 10 = .ok (.iload_n 1, 1) := by decide +kernel
theorem dX9_measure_11 : decode cX9_measure 11 = .ok (.iconst 3, 1) := by decide +kernel
theorem dX9_measure_12 : decode cX9_measure 12 = .ok (.if_icmp .ge 20, 3) := by decide +kernel
theorem dX9_measure_15 : decode cX9_measure 15 = .ok (.aload_n 0, 1) := by decide +kernel
theorem dX9_measure_16 : decode cX9_measure 16 = .ok (.aload_n 0, 1) := by decide +kernel
theorem dX9_measure_17 : decode cX9_measure 17 = .ok (.getfield 38, 3) := by decide +kernel
theorem dX9_measure_20 : decode cX9_measure 20 = .ok (.iload_n 1, 1) := by decide +kernel
theorem dX9_measure_21 : decode cX9_measure 21 = .ok (.iaload, 1) := by decide +kernel
theorem dX9_measure_22 : decode cX9_measure 22 = .ok (.iload_n 1, 1) := by decide +kernel
theorem dX9_measure_23 : decode cX9_measure 23 = .ok (.invokevirtual 57, 3) := by decide +kernel
theorem dX9_measure_26 : decode cX9_measure 26 = .ok (.iinc 1 1, 3) := by decide +kernel
theorem dX9_measure_29 : decode cX9_measure 29 = .ok (.goto (-27), 3) := by decide +kernel
theorem dX9_measure_32 : decode cX9_measure 32 = .ok (.aload_n 0, 1) := by decide +kernel
theorem dX9_measure_33 : decode cX9_measure 33 = .ok (.aload_n 0, 1) := by decide +kernel
theorem dX9_measure_34 : decode cX9_measure 34 = .ok (.getfield 28, 3) := by decide +kernel
theorem dX9_measure_37 : decode cX9_measure 37 = .ok (.iconst 3, 1) := by decide +kernel
theorem dX9_measure_38 : decode cX9_measure 38 = .ok (.invokevirtual 57, 3) := by decide +kernel
theorem dX9_measure_41 : decode cX9_measure 41 = .ok (.return_, 1) := by decide +kernel
noncomputable def b_X9_measure_0 (rec : Rk) (x0 : Int) (h : Hp) : Option (Int × Hp) :=
  rec 1 [x0, 0] h
noncomputable def b_X9_measure_1 (rec : Rk) (x0 x1 : Int) (h : Hp) : Option (Int × Hp) :=
  if (gI h 9 x0 6) ≤ x1 then (
    rec 2 [x0] h
  ) else (
    if 3 ≤ x1 then (
      rec 2 [x0] h
    ) else (
      ck (0 ≤ x1 ∧ x1 < 3) <|
      bd (f_X9_spread x0 (gI h 52 x0 x1) x1 h) fun v1 h2 =>
      ck (-2147483648 ≤ x1 + 1 ∧ x1 + 1 < 2147483648) <|
      rec 1 [x0, x1 + 1] h2
    )
  )
noncomputable def b_X9_measure_2 (rec : Rk) (x0 : Int) (h : Hp) : Option (Int × Hp) :=
  bd (f_X9_spread x0 (gI h 9 x0 5) 3 h) fun v1 h2 =>
  some (0, h2)
noncomputable def g_X9_measure (n : Nat) : Rk := Nat.rec (motive := fun _ => Rk) (fun _ _ _ => none) (fun _ rec k l h => if k = 0 then b_X9_measure_0 rec (l.getD 0 0) h else if k = 1 then b_X9_measure_1 rec (l.getD 0 0) (l.getD 1 0) h else if k = 2 then b_X9_measure_2 rec (l.getD 0 0) h else none) n
noncomputable def f_X9_measure (x0 : Int) (h : Hp) : Option (Int × Hp) := g_X9_measure FU 0 [x0] h
set_option maxHeartbeats 4000000 in
set_option maxRecDepth 100000 in
theorem t_X9_measure_0 (E : xE) (d : Nat) (rec : Rk) (r : Int × Hp) (hr_2 : ∀ (x0 x1 : Int) (h : Hp), Lay h → rec 1 [x0, x1] h = some r → X E mX9_measure (d + 4) (0, 0) (0, 0) 2 [some (xr 9 x0), some (xi x1)] [] h (PoV r)) (x0 : Int) (h : Hp) (hL : Lay h) (hF : b_X9_measure_0 rec x0 h = some r) : X E mX9_measure (d + 4) (0, 0) (0, 0) 0 [some (xr 9 x0), none] [] h (PoV r) := by
  unfold b_X9_measure_0 at hF
  refine x_iconst (n := 0) (b := 1) dX9_measure_0 (by decide) rfl ?_
  refine x_istore_n (i := 1) (b := 2) (ls2 := [some (xr 9 x0), some (xi 0)]) dX9_measure_1 rfl (Nat.le_of_ble_eq_true rfl) rfl rfl ?_
  exact x_dp (ls2 := [some (xr 9 x0), some (xi 0)]) ⟨rfl, rfl, trivial⟩ (hr_2 x0 0 h hL hF)
set_option maxHeartbeats 4000000 in
set_option maxRecDepth 100000 in
theorem t_X9_measure_1 (E : xE) (d : Nat) (rec : Rk) (r : Int × Hp) (hr_2 : ∀ (x0 x1 : Int) (h : Hp), Lay h → rec 1 [x0, x1] h = some r → X E mX9_measure (d + 4) (0, 0) (0, 0) 2 [some (xr 9 x0), some (xi x1)] [] h (PoV r)) (hr_32 : ∀ (x0 : Int) (h : Hp), Lay h → rec 2 [x0] h = some r → X E mX9_measure (d + 4) (0, 0) (0, 0) 32 [some (xr 9 x0), none] [] h (PoV r)) (x0 x1 : Int) (h : Hp) (hL : Lay h) (hF : b_X9_measure_1 rec x0 x1 h = some r) : X E mX9_measure (d + 4) (0, 0) (0, 0) 2 [some (xr 9 x0), some (xi x1)] [] h (PoV r) := by
  unfold b_X9_measure_1 at hF
  refine x_iload_n (i := 1) (b := 3) dX9_measure_2 rfl rfl rfl ?_
  refine x_aload_n (i := 0) (b := 4) dX9_measure_3 rfl rfl rfl ?_
  refine x_getI (v := gI h 9 x0 6) (b := 7) fk_X9_31 dX9_measure_4 (by decide) rfl rfl ?_
  refine x_icmp_ge (tgt := 32) (b := 10) dX9_measure_7 (by decide) rfl (fun hc => ?_) (fun hc => ?_)
  · replace hF := br_T hc hF
    exact x_dp (ls2 := [some (xr 9 x0), none]) ⟨rfl, trivial⟩ (hr_32 x0 h hL hF)
  · replace hF := br_F hc hF
    refine x_iload_n (i := 1) (b := 11) dX9_measure_10 rfl rfl rfl ?_
    refine x_iconst (n := 3) (b := 12) dX9_measure_11 (by decide) rfl ?_
    refine x_icmp_ge (tgt := 32) (b := 15) dX9_measure_12 (by decide) rfl (fun hc => ?_) (fun hc => ?_)
    · replace hF := br_T hc hF
      exact x_dp (ls2 := [some (xr 9 x0), none]) ⟨rfl, trivial⟩ (hr_32 x0 h hL hF)
    · replace hF := br_F hc hF
      refine x_aload_n (i := 0) (b := 16) dX9_measure_15 rfl rfl rfl ?_
      refine x_aload_n (i := 0) (b := 17) dX9_measure_16 rfl rfl rfl ?_
      refine x_getL (j := x0) (t := (52, 0, true)) (b := 20) fk_X9_38 dX9_measure_17 rfl hL rfl rfl rfl ?_
      refine x_iload_n (i := 1) (b := 21) dX9_measure_20 rfl rfl rfl ?_
      obtain ⟨hs, hF⟩ := ck_e hF
      refine x_iald (v := gI h 52 x0 x1) (b := 22) ak_52 dX9_measure_21 hs rfl rfl ?_
      refine x_iload_n (i := 1) (b := 23) dX9_measure_22 rfl rfl rfl ?_
      obtain ⟨v1, h2, hq, hF⟩ := bd_e hF
      refine x_callV (as := [xi (gI h 52 x0 x1), xi x1]) (rest := []) (b := 26) (c_X9_spread d x0 (gI h 52 x0 x1) x1 h _ hL hq) dX9_measure_23 cw_X9_57 ⟨_, _, rfl, Nat.le_of_ble_eq_true rfl⟩ rfl rfl (Nat.le_of_ble_eq_true rfl) ⟨Nat.le_refl _, Nat.le_refl _⟩ rfl (fun rv hh hp _ => ?_)
      obtain ⟨rfl, rfl, hL⟩ := hp
      obtain ⟨hs, hF⟩ := ck_e hF
      refine x_iinc (i := 1) (b := 29) (ls2 := [some (xr 9 x0), some (xi (x1 + 1))]) dX9_measure_26 rfl (Nat.le_of_ble_eq_true rfl) hs rfl rfl ?_
      refine x_goto (tgt := 2) dX9_measure_29 (by decide) ?_
      exact x_dp (ls2 := [some (xr 9 x0), some (xi (x1 + 1))]) ⟨rfl, rfl, trivial⟩ (hr_2 x0 (x1 + 1) h2 hL hF)
set_option maxHeartbeats 4000000 in
set_option maxRecDepth 100000 in
theorem t_X9_measure_2 (E : xE) (d : Nat) (rec : Rk) (r : Int × Hp) (x0 : Int) (h : Hp) (hL : Lay h) (hF : b_X9_measure_2 rec x0 h = some r) : X E mX9_measure (d + 4) (0, 0) (0, 0) 32 [some (xr 9 x0), none] [] h (PoV r) := by
  unfold b_X9_measure_2 at hF
  refine x_aload_n (i := 0) (b := 33) dX9_measure_32 rfl rfl rfl ?_
  refine x_aload_n (i := 0) (b := 34) dX9_measure_33 rfl rfl rfl ?_
  refine x_getI (v := gI h 9 x0 5) (b := 37) fk_X9_28 dX9_measure_34 (by decide) rfl rfl ?_
  refine x_iconst (n := 3) (b := 38) dX9_measure_37 (by decide) rfl ?_
  obtain ⟨v1, h2, hq, hF⟩ := bd_e hF
  refine x_callV (as := [xi (gI h 9 x0 5), xi 3]) (rest := []) (b := 41) (c_X9_spread d x0 (gI h 9 x0 5) 3 h _ hL hq) dX9_measure_38 cw_X9_57 ⟨_, _, rfl, Nat.le_of_ble_eq_true rfl⟩ rfl rfl (Nat.le_of_ble_eq_true rfl) ⟨Nat.le_refl _, Nat.le_refl _⟩ rfl (fun rv hh hp _ => ?_)
  obtain ⟨rfl, rfl, hL⟩ := hp
  refine x_return dX9_measure_41 rfl ⟨Nat.le_refl _, Nat.le_refl _⟩ ?_
  cases hF
  exact ⟨rfl, rfl, hL⟩
set_option maxHeartbeats 4000000 in
set_option maxRecDepth 100000 in
theorem u_X9_measure (E : xE) (d : Nat) (r : Int × Hp) : ∀ n : Nat, (∀ (x0 : Int) (h : Hp), Lay h → g_X9_measure n 0 [x0] h = some r → X E mX9_measure (d + 4) (0, 0) (0, 0) 0 [some (xr 9 x0), none] [] h (PoV r)) ∧ (∀ (x0 x1 : Int) (h : Hp), Lay h → g_X9_measure n 1 [x0, x1] h = some r → X E mX9_measure (d + 4) (0, 0) (0, 0) 2 [some (xr 9 x0), some (xi x1)] [] h (PoV r)) ∧ (∀ (x0 : Int) (h : Hp), Lay h → g_X9_measure n 2 [x0] h = some r → X E mX9_measure (d + 4) (0, 0) (0, 0) 32 [some (xr 9 x0), none] [] h (PoV r)) := by
  intro n
  induction n with
  | zero => exact ⟨fun _ _ _ hF => no_e (r := r) hF, fun _ _ _ _ hF => no_e (r := r) hF, fun _ _ _ hF => no_e (r := r) hF⟩
  | succ n ih => exact ⟨fun x0 h hL hF => t_X9_measure_0 E d (g_X9_measure n) r ih.2.1 x0 h hL hF, fun x0 x1 h hL hF => t_X9_measure_1 E d (g_X9_measure n) r ih.2.1 ih.2.2 x0 x1 h hL hF, fun x0 h hL hF => t_X9_measure_2 E d (g_X9_measure n) r  x0 h hL hF⟩
theorem c_X9_measure (d : Nat) (x0 : Int) (h : Hp) (r : Int × Hp) (hL : Lay h) (hF : f_X9_measure x0 h = some r) : Sp mX9_measure (d + 4) (0, 0) [xr 9 x0] h (PoV r) :=
  sp_of (by decide) rfl (Nat.le_of_ble_eq_true rfl) (ls := [some (xr 9 x0), none]) rfl (fun E _ => (u_X9_measure E d r FU).1 x0 h hL hF)
theorem dX6_search_0 : decode cX6_search 0 = .ok (.iload_n 1, 1) := by decide +kernel
theorem dX6_search_1 : decode cX6_search 1 = .ok (.ifCond .lt 29, 3) := by decide +kernel
theorem dX6_search_4 : decode cX6_search 4 = .ok (.iload_n 1, 1) := by decide +kernel
theorem dX6_search_5 : decode cX6_search 5 = .ok (.iload_n 2, 1) := by decide +kernel
theorem dX6_search_6 : decode cX6_search 6 = .ok (.if_icmp .ge 24, 3) := by decide +kernel
theorem dX6_search_9 : decode cX6_search 9 = .ok (.iload_n 1, 1) := by decide +kernel
theorem dX6_search_10 : decode cX6_search 10 = .ok (.iconst 3, 1) := by decide +kernel
theorem dX6_search_11 : decode cX6_search 11 = .ok (.if_icmp .ge 19, 3) := by decide +kernel
theorem dX6_search_14 : decode cX6_search 14 = .ok (.aload_n 0, 1) := by decide +kernel
theorem dX6_search_15 : decode cX6_search 15 = .ok (.aload_n 0, 1) := by decide +kernel
theorem dX6_search_16 : decode cX6_search 16 = .ok (.getfield 11, 3) := by decide +kernel
theorem dX6_search_19 : decode cX6_search 19 = .ok (.iload_n 1, 1) := by decide +kernel
theorem dX6_search_20 : decode cX6_search 20 = .ok (.aaload, 1) := by decide +kernel
theorem dX6_search_21 : decode cX6_search 21 = .ok (.iload_n 2, 1) := by decide +kernel
theorem dX6_search_22 : decode cX6_search 22 = .ok (.iload_n 1, 1) := by decide +kernel
theorem dX6_search_23 : decode cX6_search 23 = .ok (.isub, 1) := by decide +kernel
theorem dX6_search_24 : decode cX6_search 24 = .ok (.invokevirtual 68, 3) := by decide +kernel
theorem dX6_search_27 : decode cX6_search 27 = .ok (.ifCond .eq 4, 3) := by decide +kernel
theorem dX6_search_30 : decode cX6_search 30 = .ok (.return_, 1) := by decide +kernel
theorem dX6_search_31 : decode cX6_search 31 = .ok (.aload_n 0, 1) := by decide +kernel
theorem dX6_search_32 : decode cX6_search 32 = .ok (.getfield 11, 3) := by decide +kernel
theorem dX6_search_35 : decode cX6_search 35 = .ok (.iload_n 1, 1) := by decide +kernel
theorem dX6_search_36 : decode cX6_search 36 = .ok (.aaload, 1) := by decide +kernel
theorem dX6_search_37 : decode cX6_search 37 = .ok (.astore 4, 2) := by decide +kernel
theorem dX6_search_39 : decode cX6_search 39 = .ok (.aload_n 0, 1) := by decide +kernel
theorem dX6_search_40 : decode cX6_search 40 = .ok (.getfield 31, 3) := by decide +kernel
theorem dX6_search_43 : decode cX6_search 43 = .ok (.aload 4, 2) := by decide +kernel
theorem dX6_search_45 : decode cX6_search 45 = .ok (.invokevirtual 72, 3) := by decide +kernel
theorem dX6_search_48 : decode cX6_search 48 = .ok (.istore 5, 2) := by decide +kernel
theorem dX6_search_50 : decode cX6_search 50 = .ok (.aload_n 0, 1) := by decide +kernel
theorem dX6_search_51 : decode cX6_search 51 = .ok (.getfield 31, 3) := by decide +kernel
theorem dX6_search_54 : decode cX6_search 54 = .ok (.iload_n 1, 1) := by decide +kernel
theorem dX6_search_55 : decode cX6_search 55 = .ok (.invokevirtual 76, 3) := by decide +kernel
theorem dX6_search_58 : decode cX6_search 58 = .ok (.iconst 0, 1) := by decide +kernel
theorem dX6_search_59 : decode cX6_search 59 = .ok (.istore 6, 2) := by decide +kernel
theorem dX6_search_61 : decode cX6_search 61 = .ok (.iload 6, 2) := by decide +kernel
theorem dX6_search_63 : decode cX6_search 63 = .ok (.bipush 32, 2) := by decide +kernel
theorem dX6_search_65 : decode cX6_search 65 = .ok (.if_icmp .ge 181, 3) := by decide +kernel
theorem dX6_search_68 : decode cX6_search 68 = .ok (.iload 6, 2) := by decide +kernel
theorem dX6_search_70 : decode cX6_search 70 = .ok (.iload 5, 2) := by decide +kernel
theorem dX6_search_72 : decode cX6_search 72 = .ok (.iconst (-1), 1) := by decide +kernel
theorem dX6_search_73 : decode cX6_search 73 = .ok (.ixor, 1) := by decide +kernel
theorem dX6_search_74 : decode cX6_search 74 = .ok (.iand, 1) := by decide +kernel
theorem dX6_search_75 : decode cX6_search 75 = .ok (.ifCond .eq 6, 3) := by decide +kernel
theorem dX6_search_78 : decode cX6_search 78 = .ok (.goto 162, 3) := by decide +kernel
theorem dX6_search_81 : decode cX6_search 81 = .ok (.aload_n 0, 1) := by decide +kernel
theorem dX6_search_82 : decode cX6_search 82 = .ok (.getfield 31, 3) := by decide +kernel
theorem dX6_search_85 : decode cX6_search 85 = .ok (.iload_n 1, 1) := by decide +kernel
theorem dX6_search_86 : decode cX6_search 86 = .ok (.invokevirtual 64, 3) := by decide +kernel
theorem dX6_search_89 : decode cX6_search 89 = .ok (.aload_n 0, 1) := by decide +kernel
theorem dX6_search_90 : decode cX6_search 90 = .ok (.getfield 31, 3) := by decide +kernel
theorem dX6_search_93 : decode cX6_search 93 = .ok (.aload 4, 2) := by decide +kernel
theorem dX6_search_95 : decode cX6_search 95 = .ok (.iload 6, 2) := by decide +kernel
theorem dX6_search_97 : decode cX6_search 97 = .ok (.invokevirtual 79, 3) := by decide +kernel
theorem dX6_search_100 : decode cX6_search 100 = .ok (.iload_n 3, 1) := by decide +kernel
theorem dX6_search_101 : decode cX6_search 101 = .ok (.aload_n 0, 1) := by decide +kernel
theorem dX6_search_102 : decode cX6_search 102 = .ok (.getfield 31, 3) := by decide +kernel
theorem dX6_search_105 : decode cX6_search 105 = .ok (.getfield 83, 3) := by decide +kernel
theorem dX6_search_108 : decode cX6_search 108 = .ok (.iadd, 1) := by decide +kernel
theorem dX6_search_109 : decode cX6_search 109 = .ok (.istore 7, 2) := by decide +kernel
theorem dX6_search_111 : decode cX6_search 111 = .ok (.aload_n 0, 1) := by decide +kernel
theorem dX6_search_112 : decode cX6_search 112 = .ok (.iload 7, 2) := by decide +kernel
theorem dX6_search_114 : decode cX6_search 114 = .ok (.iload_n 1, 1) := by decide +kernel
theorem dX6_search_115 : decode cX6_search 115 = .ok (.iconst 1, 1) := by decide +kernel
theorem dX6_search_116 : decode cX6_search 116 = .ok (.iadd, 1) := by decide +kernel
theorem dX6_search_117 : decode cX6_search 117 = .ok (.invokevirtual 86, 3) := by decide +kernel
theorem dX6_search_120 : decode cX6_search 120 = .ok (.ifCond .eq 6, 3) := by decide +kernel
theorem dX6_search_123 : decode cX6_search 123 = .ok (.goto 117, 3) := by decide +kernel
theorem dX6_search_126 : decode cX6_search 126 = .ok (.aload_n 0, 1) := by decide +kernel
theorem dX6_search_127 : decode cX6_search 127 = .ok (.getfield 31, 3) := by decide +kernel
theorem dX6_search_130 : decode cX6_search 130 = .ok (.aload 4, 2) := by decide +kernel
theorem dX6_search_132 : decode cX6_search 132 = .ok (.invokevirtual 90, 3) := by decide +kernel
theorem dX6_search_135 : decode cX6_search 135 = .ok (.aload_n 0, 1) := by decide +kernel
theorem dX6_search_136 : decode cX6_search 136 = .ok (.getfield 31, 3) := by decide +kernel
theorem dX6_search_139 : decode cX6_search 139 = .ok (.aload 4, 2) := by decide +kernel
theorem dX6_search_141 : decode cX6_search 141 = .ok (.invokevirtual 93, 3) := by decide +kernel
theorem dX6_search_144 : decode cX6_search 144 = .ok (.istore 8, 2) := by decide +kernel
theorem dX6_search_146 : decode cX6_search 146 = .ok (.aload_n 0, 1) := by decide +kernel
theorem dX6_search_147 : decode cX6_search 147 = .ok (.getfield 17, 3) := by decide +kernel
theorem dX6_search_150 : decode cX6_search 150 = .ok (.iload_n 1, 1) := by decide +kernel
theorem dX6_search_151 : decode cX6_search 151 = .ok (.iload 6, 2) := by decide +kernel
theorem dX6_search_153 : decode cX6_search 153 = .ok (.iastore, 1) := by decide +kernel
theorem dX6_search_154 : decode cX6_search 154 = .ok (.aload_n 0, 1) := by decide +kernel
theorem dX6_search_155 : decode cX6_search 155 = .ok (.getfield 31, 3) := by decide +kernel
theorem dX6_search_158 : decode cX6_search 158 = .ok (.aload 4, 2) := by decide +kernel
theorem dX6_search_160 : decode cX6_search 160 = .ok (.iload 8, 2) := by decide +kernel
theorem dX6_search_162 : decode cX6_search 162 = .ok (.invokevirtual 96, 3) := by decide +kernel
theorem dX6_search_165 : decode cX6_search 165 = .ok (.aload_n 0, 1) := by decide +kernel
theorem dX6_search_166 : decode cX6_search 166 = .ok (.getfield 31, 3) := by decide +kernel
theorem dX6_search_169 : decode cX6_search 169 = .ok (.getfield 39, 3) := by decide +kernel
theorem dX6_search_172 : decode cX6_search 172 = .ok (.getfield 45, 3) := by decide +kernel
theorem dX6_search_175 : decode cX6_search 175 = .ok (.getfield 51, 3) := by decide +kernel
theorem dX6_search_178 : decode cX6_search 178 = .ok (.if_icmp .ne 15, 3) := by decide +kernel
theorem dX6_search_181 : decode cX6_search 181 = .ok (.aload_n 0, 1) := by decide +kernel
theorem dX6_search_182 : decode cX6_search 182 = .ok (.iload 7, 2) := by decide +kernel
theorem dX6_search_184 : decode cX6_search 184 = .ok (.iload_n 1, 1) := by decide +kernel
theorem dX6_search_185 : decode cX6_search 185 = .ok (.iconst 1, 1) := by decide +kernel
theorem dX6_search_186 : decode cX6_search 186 = .ok (.iadd, 1) := by decide +kernel
theorem dX6_search_187 : decode cX6_search 187 = .ok (.invokevirtual 100, 3) := by decide +kernel
theorem dX6_search_190 : decode cX6_search 190 = .ok (.goto 50, 3) := by decide +kernel
theorem dX6_search_193 : decode cX6_search 193 = .ok (.iload_n 1, 1) := by decide +kernel
theorem dX6_search_194 : decode cX6_search 194 = .ok (.iconst 1, 1) := by decide +kernel
theorem dX6_search_195 : decode cX6_search 195 = .ok (.iadd, 1) := by decide +kernel
theorem dX6_search_196 : decode cX6_search 196 = .ok (.iload_n 2, 1) := by decide +kernel
theorem dX6_search_197 : decode cX6_search 197 = .ok (.if_icmp .ge 43, 3) := by decide +kernel
theorem dX6_search_200 : decode cX6_search 200 = .ok (.aload_n 0, 1) := by decide +kernel
theorem dX6_search_201 : decode cX6_search 201 = .ok (.getfield 11, 3) := by decide +kernel
theorem dX6_search_204 : decode cX6_search 204 = .ok (.iload_n 1, 1) := by decide +kernel
theorem dX6_search_205 : decode cX6_search 205 = .ok (.iconst 1, 1) := by decide +kernel
theorem dX6_search_206 : decode cX6_search 206 = .ok (.iadd, 1) := by decide +kernel
theorem dX6_search_207 : decode cX6_search 207 = .ok (.aaload, 1) := by decide +kernel
theorem dX6_search_208 : decode cX6_search 208 = .ok (.aload 4, 2) := by decide +kernel
theorem dX6_search_210 : decode cX6_search 210 = .ok (.invokevirtual 56, 3) := by decide +kernel
theorem dX6_search_213 : decode cX6_search 213 = .ok (.aload_n 0, 1) := by decide +kernel
theorem dX6_search_214 : decode cX6_search 214 = .ok (.getfield 31, 3) := by decide +kernel
theorem dX6_search_217 : decode cX6_search 217 = .ok (.aload_n 0, 1) := by decide +kernel
theorem dX6_search_218 : decode cX6_search 218 = .ok (.getfield 11, 3) := by decide +kernel
theorem dX6_search_221 : decode cX6_search 221 = .ok (.iload_n 1, 1) := by decide +kernel
theorem dX6_search_222 : decode cX6_search 222 = .ok (.iconst 1, 1) := by decide +kernel
theorem dX6_search_223 : decode cX6_search 223 = .ok (.iadd, 1) := by decide +kernel
theorem dX6_search_224 : decode cX6_search 224 = .ok (.aaload, 1) := by decide +kernel
theorem dX6_search_225 : decode cX6_search 225 = .ok (.iload 8, 2) := by decide +kernel
theorem dX6_search_227 : decode cX6_search 227 = .ok (.invokevirtual 104, 3) := by decide +kernel
theorem dX6_search_230 : decode cX6_search 230 = .ok (.aload_n 0, 1) := by decide +kernel
theorem dX6_search_231 : decode cX6_search 231 = .ok (.iload_n 1, 1) := by decide +kernel
theorem dX6_search_232 : decode cX6_search 232 = .ok (.iconst 1, 1) := by decide +kernel
theorem dX6_search_233 : decode cX6_search 233 = .ok (.iadd, 1) := by decide +kernel
theorem dX6_search_234 : decode cX6_search 234 = .ok (.iload_n 2, 1) := by decide +kernel
theorem dX6_search_235 : decode cX6_search 235 = .ok (.iload 7, 2) := by decide +kernel
theorem dX6_search_237 : decode cX6_search 237 = .ok (.invokevirtual 60, 3) := by decide +kernel
theorem dX6_search_240 : decode cX6_search 240 = .ok (.iinc 6 1, 3) := by decide +kernel
theorem dX6_search_243 : decode cX6_search 243 = .ok (.goto (-182), 3) := by decide +kernel
theorem dX6_search_246 : decode cX6_search 246 = .ok (.return_, 1) := by decide +kernel
noncomputable def b_grpS_0 (rec : Rk) (x1 x2 x3 : Int) (h : Hp) : Option (Int × Hp) :=
  if x1 < 0 then (
    some (0, h)
  ) else (
    if x2 ≤ x1 then (
      some (0, h)
    ) else (
      if 3 ≤ x1 then (
        some (0, h)
      ) else (
        ck (0 ≤ x1 ∧ x1 < 4) <|
        rf (gR h 43 0 x1) 10 fun j1 =>
        ck (-2147483648 ≤ x2 - x1 ∧ x2 - x1 < 2147483648) <|
        bd (f_X6_isTooFar j1 (x2 - x1) h) fun v2 h3 =>
        if v2 = 0 then (
          ck (0 ≤ x1 ∧ x1 < 4) <|
          rf (gR h3 43 0 x1) 10 fun j4 =>
          bd (f_X2_hungry j4 h3) fun v5 h6 =>
          bd (f_X2_openPage x1 h6) fun v7 h8 =>
          rec 1 [x1, x2, x3, j4, v5, 0] h8
        ) else (
          some (0, h3)
        )
      )
    )
  )
noncomputable def b_grpS_1 (rec : Rk) (x1 x2 x3 x4 x5 x6 : Int) (h : Hp) : Option (Int × Hp) :=
  if 32 ≤ x6 then (
    some (0, h)
  ) else (
    if (band x6 (bxor x5 (-1))) = 0 then (
      bd (f_X2_usePage x1 h) fun v1 h2 =>
      bd (f_X2_serve x4 x6 h2) fun v3 h4 =>
      ck (-2147483648 ≤ x3 + (gI h4 2 0 7) ∧ x3 + (gI h4 2 0 7) < 2147483648) <|
      lt (x3 + (gI h4 2 0 7)) fun z5 =>
      ck (-2147483648 ≤ x1 + 1 ∧ x1 + 1 < 2147483648) <|
      bd (f_X6_isWorse z5 (x1 + 1) h4) fun v6 h7 =>
      if v6 = 0 then (
        bd (f_X2_poll x4 h7) fun v8 h9 =>
        bd (f_X2_winner x4 h9) fun v10 h11 =>
        ck (0 ≤ x1 ∧ x1 < 3) <|
        lt (sI h11 44 0 x1 x6) fun h12 =>
        bd (f_X2_comesTo x4 v10 h12) fun v13 h14 =>
        rf (gR h14 2 0 0) 0 fun j15 =>
        if v13 = (gI h14 9 j15 5) then (
          ck (-2147483648 ≤ x1 + 1 ∧ x1 + 1 < 2147483648) <|
          bd (f_X6_take z5 (x1 + 1) h14) fun v16 h17 =>
          rec 2 [x1, x2, x3, x4, x5, x6] h17
        ) else (
          ck (-2147483648 ≤ x1 + 1 ∧ x1 + 1 < 2147483648) <|
          if x2 ≤ (x1 + 1) then (
            rec 2 [x1, x2, x3, x4, x5, x6] h14
          ) else (
            ck (-2147483648 ≤ x1 + 1 ∧ x1 + 1 < 2147483648) <|
            ck (0 ≤ (x1 + 1) ∧ (x1 + 1) < 4) <|
            rf (gR h14 43 0 (x1 + 1)) 10 fun j18 =>
            bd (f_X10_copyFrom j18 x4 h14) fun v19 h20 =>
            ck (-2147483648 ≤ x1 + 1 ∧ x1 + 1 < 2147483648) <|
            ck (0 ≤ (x1 + 1) ∧ (x1 + 1) < 4) <|
            rf (gR h20 43 0 (x1 + 1)) 10 fun j21 =>
            bd (f_X2_sail j21 v10 h20) fun v22 h23 =>
            ck (-2147483648 ≤ x1 + 1 ∧ x1 + 1 < 2147483648) <|
            bd (rec 0 [x1 + 1, x2, z5] h23) fun v24 h25 =>
            rec 2 [x1, x2, x3, x4, x5, x6] h25
          )
        )
      ) else (
        rec 2 [x1, x2, x3, x4, x5, x6] h7
      )
    ) else (
      rec 2 [x1, x2, x3, x4, x5, x6] h
    )
  )
noncomputable def b_grpS_2 (rec : Rk) (x1 x2 x3 x4 x5 x6 : Int) (h : Hp) : Option (Int × Hp) :=
  ck (-2147483648 ≤ x6 + 1 ∧ x6 + 1 < 2147483648) <|
  rec 1 [x1, x2, x3, x4, x5, x6 + 1] h
noncomputable def g_grpS (n : Nat) : Rk := Nat.rec (motive := fun _ => Rk) (fun _ _ _ => none) (fun _ rec k l h => if k = 0 then b_grpS_0 rec (l.getD 0 0) (l.getD 1 0) (l.getD 2 0) h else if k = 1 then b_grpS_1 rec (l.getD 0 0) (l.getD 1 0) (l.getD 2 0) (l.getD 3 0) (l.getD 4 0) (l.getD 5 0) h else if k = 2 then b_grpS_2 rec (l.getD 0 0) (l.getD 1 0) (l.getD 2 0) (l.getD 3 0) (l.getD 4 0) (l.getD 5 0) h else none) n
set_option maxHeartbeats 4000000 in
set_option maxRecDepth 100000 in
theorem t_grpS_0 (E : xE) (d : Nat) (rec : Rk) (r : Int × Hp) (hr_61 : ∀ (x1 x2 x3 x4 x5 x6 : Int) (h : Hp), Lay h → rec 1 [x1, x2, x3, x4, x5, x6] h = some r → X E mX6_search (d + 6) (0, 0) (0, 0) 61 [some (xr 6 0), some (xi x1), some (xi x2), some (xi x3), some (xr 10 x4), some (xi x5), some (xi x6), none, none] [] h (PoV r)) (x1 x2 x3 : Int) (h : Hp) (hL : Lay h) (hF : b_grpS_0 rec x1 x2 x3 h = some r) : X E mX6_search (d + 6) (0, 0) (0, 0) 0 [some (xr 6 0), some (xi x1), some (xi x2), some (xi x3), none, none, none, none, none] [] h (PoV r) := by
  unfold b_grpS_0 at hF
  refine x_iload_n (i := 1) (b := 1) dX6_search_0 rfl rfl rfl ?_
  refine x_if_lt (tgt := 30) (b := 4) dX6_search_1 (by decide) rfl (fun hc => ?_) (fun hc => ?_)
  · replace hF := br_T hc hF
    refine x_return dX6_search_30 rfl ⟨Nat.le_refl _, Nat.le_refl _⟩ ?_
    cases hF
    exact ⟨rfl, rfl, hL⟩
  · replace hF := br_F hc hF
    refine x_iload_n (i := 1) (b := 5) dX6_search_4 rfl rfl rfl ?_
    refine x_iload_n (i := 2) (b := 6) dX6_search_5 rfl rfl rfl ?_
    refine x_icmp_ge (tgt := 30) (b := 9) dX6_search_6 (by decide) rfl (fun hc => ?_) (fun hc => ?_)
    · replace hF := br_T hc hF
      refine x_return dX6_search_30 rfl ⟨Nat.le_refl _, Nat.le_refl _⟩ ?_
      cases hF
      exact ⟨rfl, rfl, hL⟩
    · replace hF := br_F hc hF
      refine x_iload_n (i := 1) (b := 10) dX6_search_9 rfl rfl rfl ?_
      refine x_iconst (n := 3) (b := 11) dX6_search_10 (by decide) rfl ?_
      refine x_icmp_ge (tgt := 30) (b := 14) dX6_search_11 (by decide) rfl (fun hc => ?_) (fun hc => ?_)
      · replace hF := br_T hc hF
        refine x_return dX6_search_30 rfl ⟨Nat.le_refl _, Nat.le_refl _⟩ ?_
        cases hF
        exact ⟨rfl, rfl, hL⟩
      · replace hF := br_F hc hF
        refine x_aload_n (i := 0) (b := 15) dX6_search_14 rfl rfl rfl ?_
        refine x_aload_n (i := 0) (b := 16) dX6_search_15 rfl rfl rfl ?_
        refine x_getL (j := 0) (t := (43, 0, true)) (b := 19) fk_X6_11 dX6_search_16 rfl hL rfl rfl rfl ?_
        refine x_iload_n (i := 1) (b := 20) dX6_search_19 rfl rfl rfl ?_
        obtain ⟨hs, hF⟩ := ck_e hF
        obtain ⟨j1, e_j1, hF⟩ := rf_e hF
        refine x_aaldV (v := some (10, j1)) (b := 21) ak_43 dX6_search_20 hs e_j1 rfl ?_
        refine x_iload_n (i := 2) (b := 22) dX6_search_21 rfl rfl rfl ?_
        refine x_iload_n (i := 1) (b := 23) dX6_search_22 rfl rfl rfl ?_
        obtain ⟨hs, hF⟩ := ck_e hF
        refine x_isub (b := 24) dX6_search_23 hs rfl ?_
        obtain ⟨v2, h3, hq, hF⟩ := bd_e hF
        refine x_callV (as := [xr 10 j1, xi (x2 - x1)]) (rest := []) (b := 27) (c_X6_isTooFar (d + 2) j1 (x2 - x1) h _ hL hq) dX6_search_24 cw_X6_68 ⟨_, _, rfl, Nat.le_of_ble_eq_true rfl⟩ rfl rfl (Nat.le_of_ble_eq_true rfl) ⟨Nat.le_refl _, Nat.le_refl _⟩ rfl (fun rv hh hp _ => ?_)
        obtain ⟨rfl, rfl, hL⟩ := hp
        refine x_if_eq (tgt := 31) (b := 30) dX6_search_27 (by decide) rfl (fun hc => ?_) (fun hc => ?_)
        · replace hF := br_T hc hF
          refine x_aload_n (i := 0) (b := 32) dX6_search_31 rfl rfl rfl ?_
          refine x_getL (j := 0) (t := (43, 0, true)) (b := 35) fk_X6_11 dX6_search_32 rfl hL rfl rfl rfl ?_
          refine x_iload_n (i := 1) (b := 36) dX6_search_35 rfl rfl rfl ?_
          obtain ⟨hs, hF⟩ := ck_e hF
          obtain ⟨j4, e_j4, hF⟩ := rf_e hF
          refine x_aaldV (v := some (10, j4)) (b := 37) ak_43 dX6_search_36 hs e_j4 rfl ?_
          refine x_astore (i := 4) (b := 39) (ls2 := [some (xr 6 0), some (xi x1), some (xi x2), some (xi x3), some (xr 10 j4), none, none, none, none]) dX6_search_37 (Nat.le_of_ble_eq_true rfl) rfl rfl ?_
          refine x_aload_n (i := 0) (b := 40) dX6_search_39 rfl rfl rfl ?_
          refine x_getL (j := 0) (t := (2, 0, false)) (b := 43) fk_X6_31 dX6_search_40 rfl hL rfl rfl rfl ?_
          refine x_aload (i := 4) (b := 45) dX6_search_43 rfl rfl ?_
          obtain ⟨v5, h6, hq, hF⟩ := bd_e hF
          refine x_callV (as := [xr 10 j4]) (rest := []) (b := 48) (c_X2_hungry (d + 1) j4 h3 _ hL hq) dX6_search_45 cw_X6_72 ⟨_, _, rfl, Nat.le_of_ble_eq_true rfl⟩ rfl rfl (Nat.le_of_ble_eq_true rfl) ⟨Nat.le_refl _, Nat.le_refl _⟩ rfl (fun rv hh hp _ => ?_)
          obtain ⟨rfl, rfl, hL⟩ := hp
          refine x_istore (i := 5) (b := 50) (ls2 := [some (xr 6 0), some (xi x1), some (xi x2), some (xi x3), some (xr 10 j4), some (xi v5), none, none, none]) dX6_search_48 (Nat.le_of_ble_eq_true rfl) rfl rfl ?_
          refine x_aload_n (i := 0) (b := 51) dX6_search_50 rfl rfl rfl ?_
          refine x_getL (j := 0) (t := (2, 0, false)) (b := 54) fk_X6_31 dX6_search_51 rfl hL rfl rfl rfl ?_
          refine x_iload_n (i := 1) (b := 55) dX6_search_54 rfl rfl rfl ?_
          obtain ⟨v7, h8, hq, hF⟩ := bd_e hF
          refine x_callV (as := [xi x1]) (rest := []) (b := 58) (c_X2_openPage (d + 3) x1 h6 _ hL hq) dX6_search_55 cw_X6_76 ⟨_, _, rfl, Nat.le_of_ble_eq_true rfl⟩ rfl rfl (Nat.le_of_ble_eq_true rfl) ⟨Nat.le_refl _, Nat.le_refl _⟩ rfl (fun rv hh hp _ => ?_)
          obtain ⟨rfl, rfl, hL⟩ := hp
          refine x_iconst (n := 0) (b := 59) dX6_search_58 (by decide) rfl ?_
          refine x_istore (i := 6) (b := 61) (ls2 := [some (xr 6 0), some (xi x1), some (xi x2), some (xi x3), some (xr 10 j4), some (xi v5), some (xi 0), none, none]) dX6_search_59 (Nat.le_of_ble_eq_true rfl) rfl rfl ?_
          exact x_dp (ls2 := [some (xr 6 0), some (xi x1), some (xi x2), some (xi x3), some (xr 10 j4), some (xi v5), some (xi 0), none, none]) ⟨rfl, rfl, rfl, rfl, rfl, rfl, rfl, trivial⟩ (hr_61 x1 x2 x3 j4 v5 0 h8 hL hF)
        · replace hF := br_F hc hF
          refine x_return dX6_search_30 rfl ⟨Nat.le_refl _, Nat.le_refl _⟩ ?_
          cases hF
          exact ⟨rfl, rfl, hL⟩
set_option maxHeartbeats 4000000 in
set_option maxRecDepth 100000 in
theorem t_grpS_1 (E : xE) (d : Nat) (rec : Rk) (r : Int × Hp) (hr_240 : ∀ (x1 x2 x3 x4 x5 x6 : Int) (h : Hp), Lay h → rec 2 [x1, x2, x3, x4, x5, x6] h = some r → X E mX6_search (d + 6) (0, 0) (0, 0) 240 [some (xr 6 0), some (xi x1), some (xi x2), some (xi x3), some (xr 10 x4), some (xi x5), some (xi x6), none, none] [] h (PoV r)) (hc_X6_search : ∀ (x1 x2 x3 : Int) (h : Hp) (r : Int × Hp), Lay h → rec 0 [x1, x2, x3] h = some r → Sp mX6_search (d + 5) (0, 0) [xr 6 0, xi x1, xi x2, xi x3] h (PoV r)) (x1 x2 x3 x4 x5 x6 : Int) (h : Hp) (hL : Lay h) (hF : b_grpS_1 rec x1 x2 x3 x4 x5 x6 h = some r) : X E mX6_search (d + 6) (0, 0) (0, 0) 61 [some (xr 6 0), some (xi x1), some (xi x2), some (xi x3), some (xr 10 x4), some (xi x5), some (xi x6), none, none] [] h (PoV r) := by
  unfold b_grpS_1 at hF
  refine x_iload (i := 6) (b := 63) dX6_search_61 rfl rfl ?_
  refine x_bipush (n := 32) (b := 65) dX6_search_63 (by decide) rfl ?_
  refine x_icmp_ge (tgt := 246) (b := 68) dX6_search_65 (by decide) rfl (fun hc => ?_) (fun hc => ?_)
  · replace hF := br_T hc hF
    refine x_return dX6_search_246 rfl ⟨Nat.le_refl _, Nat.le_refl _⟩ ?_
    cases hF
    exact ⟨rfl, rfl, hL⟩
  · replace hF := br_F hc hF
    refine x_iload (i := 6) (b := 70) dX6_search_68 rfl rfl ?_
    refine x_iload (i := 5) (b := 72) dX6_search_70 rfl rfl ?_
    refine x_iconst (n := (-1)) (b := 73) dX6_search_72 (by decide) rfl ?_
    refine x_ixor (b := 74) dX6_search_73 rfl ?_
    refine x_iand (b := 75) dX6_search_74 rfl ?_
    refine x_if_eq (tgt := 81) (b := 78) dX6_search_75 (by decide) rfl (fun hc => ?_) (fun hc => ?_)
    · replace hF := br_T hc hF
      refine x_aload_n (i := 0) (b := 82) dX6_search_81 rfl rfl rfl ?_
      refine x_getL (j := 0) (t := (2, 0, false)) (b := 85) fk_X6_31 dX6_search_82 rfl hL rfl rfl rfl ?_
      refine x_iload_n (i := 1) (b := 86) dX6_search_85 rfl rfl rfl ?_
      obtain ⟨v1, h2, hq, hF⟩ := bd_e hF
      refine x_callV (as := [xi x1]) (rest := []) (b := 89) (c_X2_usePage (d + 4) x1 h _ hL hq) dX6_search_86 cw_X6_64 ⟨_, _, rfl, Nat.le_of_ble_eq_true rfl⟩ rfl rfl (Nat.le_of_ble_eq_true rfl) ⟨Nat.le_refl _, Nat.le_refl _⟩ rfl (fun rv hh hp _ => ?_)
      obtain ⟨rfl, rfl, hL⟩ := hp
      refine x_aload_n (i := 0) (b := 90) dX6_search_89 rfl rfl rfl ?_
      refine x_getL (j := 0) (t := (2, 0, false)) (b := 93) fk_X6_31 dX6_search_90 rfl hL rfl rfl rfl ?_
      refine x_aload (i := 4) (b := 95) dX6_search_93 rfl rfl ?_
      refine x_iload (i := 6) (b := 97) dX6_search_95 rfl rfl ?_
      obtain ⟨v3, h4, hq, hF⟩ := bd_e hF
      refine x_callV (as := [xr 10 x4, xi x6]) (rest := []) (b := 100) (c_X2_serve (d + 1) x4 x6 h2 _ hL hq) dX6_search_97 cw_X6_79 ⟨_, _, rfl, Nat.le_of_ble_eq_true rfl⟩ rfl rfl (Nat.le_of_ble_eq_true rfl) ⟨Nat.le_refl _, Nat.le_refl _⟩ rfl (fun rv hh hp _ => ?_)
      obtain ⟨rfl, rfl, hL⟩ := hp
      refine x_iload_n (i := 3) (b := 101) dX6_search_100 rfl rfl rfl ?_
      refine x_aload_n (i := 0) (b := 102) dX6_search_101 rfl rfl rfl ?_
      refine x_getL (j := 0) (t := (2, 0, false)) (b := 105) fk_X6_31 dX6_search_102 rfl hL rfl rfl rfl ?_
      refine x_getI (v := gI h4 2 0 7) (b := 108) fk_X6_83 dX6_search_105 (by decide) rfl rfl ?_
      obtain ⟨hs, hF⟩ := ck_e hF
      refine x_iadd (b := 109) dX6_search_108 hs rfl ?_
      obtain ⟨z5, e_z5, hF⟩ := lt_e hF
      refine x_eq (y := z5) e_z5 ?_
      refine x_istore (i := 7) (b := 111) (ls2 := [some (xr 6 0), some (xi x1), some (xi x2), some (xi x3), some (xr 10 x4), some (xi x5), some (xi x6), some (xi z5), none]) dX6_search_109 (Nat.le_of_ble_eq_true rfl) rfl rfl ?_
      refine x_aload_n (i := 0) (b := 112) dX6_search_111 rfl rfl rfl ?_
      refine x_iload (i := 7) (b := 114) dX6_search_112 rfl rfl ?_
      refine x_iload_n (i := 1) (b := 115) dX6_search_114 rfl rfl rfl ?_
      refine x_iconst (n := 1) (b := 116) dX6_search_115 (by decide) rfl ?_
      obtain ⟨hs, hF⟩ := ck_e hF
      refine x_iadd (b := 117) dX6_search_116 hs rfl ?_
      obtain ⟨v6, h7, hq, hF⟩ := bd_e hF
      refine x_callV (as := [xi z5, xi (x1 + 1)]) (rest := []) (b := 120) (c_X6_isWorse (d + 4) z5 (x1 + 1) h4 _ hL hq) dX6_search_117 cw_X6_86 ⟨_, _, rfl, Nat.le_of_ble_eq_true rfl⟩ rfl rfl (Nat.le_of_ble_eq_true rfl) ⟨Nat.le_refl _, Nat.le_refl _⟩ rfl (fun rv hh hp _ => ?_)
      obtain ⟨rfl, rfl, hL⟩ := hp
      refine x_if_eq (tgt := 126) (b := 123) dX6_search_120 (by decide) rfl (fun hc => ?_) (fun hc => ?_)
      · replace hF := br_T hc hF
        refine x_aload_n (i := 0) (b := 127) dX6_search_126 rfl rfl rfl ?_
        refine x_getL (j := 0) (t := (2, 0, false)) (b := 130) fk_X6_31 dX6_search_127 rfl hL rfl rfl rfl ?_
        refine x_aload (i := 4) (b := 132) dX6_search_130 rfl rfl ?_
        obtain ⟨v8, h9, hq, hF⟩ := bd_e hF
        refine x_callV (as := [xr 10 x4]) (rest := []) (b := 135) (c_X2_poll d x4 h7 _ hL hq) dX6_search_132 cw_X6_90 ⟨_, _, rfl, Nat.le_of_ble_eq_true rfl⟩ rfl rfl (Nat.le_of_ble_eq_true rfl) ⟨Nat.le_refl _, Nat.le_refl _⟩ rfl (fun rv hh hp _ => ?_)
        obtain ⟨rfl, rfl, hL⟩ := hp
        refine x_aload_n (i := 0) (b := 136) dX6_search_135 rfl rfl rfl ?_
        refine x_getL (j := 0) (t := (2, 0, false)) (b := 139) fk_X6_31 dX6_search_136 rfl hL rfl rfl rfl ?_
        refine x_aload (i := 4) (b := 141) dX6_search_139 rfl rfl ?_
        obtain ⟨v10, h11, hq, hF⟩ := bd_e hF
        refine x_callV (as := [xr 10 x4]) (rest := []) (b := 144) (c_X2_winner (d + 3) x4 h9 _ hL hq) dX6_search_141 cw_X6_93 ⟨_, _, rfl, Nat.le_of_ble_eq_true rfl⟩ rfl rfl (Nat.le_of_ble_eq_true rfl) ⟨Nat.le_refl _, Nat.le_refl _⟩ rfl (fun rv hh hp _ => ?_)
        obtain ⟨rfl, rfl, hL⟩ := hp
        refine x_istore (i := 8) (b := 146) (ls2 := [some (xr 6 0), some (xi x1), some (xi x2), some (xi x3), some (xr 10 x4), some (xi x5), some (xi x6), some (xi z5), some (xi v10)]) dX6_search_144 (Nat.le_of_ble_eq_true rfl) rfl rfl ?_
        refine x_aload_n (i := 0) (b := 147) dX6_search_146 rfl rfl rfl ?_
        refine x_getL (j := 0) (t := (44, 0, true)) (b := 150) fk_X6_17 dX6_search_147 rfl hL rfl rfl rfl ?_
        refine x_iload_n (i := 1) (b := 151) dX6_search_150 rfl rfl rfl ?_
        refine x_iload (i := 6) (b := 153) dX6_search_151 rfl rfl ?_
        obtain ⟨hs, hF⟩ := ck_e hF
        have hs1 := hs
        refine x_iast (b := 154) ak_44 dX6_search_153 hs1 rfl ?_
        obtain ⟨h12, e_h12, hF⟩ := lt_e hF
        refine x_hp (h2 := h12) e_h12 ?_
        replace hL : Lay h12 := by rw [← e_h12]; exact hL
        refine x_aload_n (i := 0) (b := 155) dX6_search_154 rfl rfl rfl ?_
        refine x_getL (j := 0) (t := (2, 0, false)) (b := 158) fk_X6_31 dX6_search_155 rfl hL rfl rfl rfl ?_
        refine x_aload (i := 4) (b := 160) dX6_search_158 rfl rfl ?_
        refine x_iload (i := 8) (b := 162) dX6_search_160 rfl rfl ?_
        obtain ⟨v13, h14, hq, hF⟩ := bd_e hF
        refine x_callV (as := [xr 10 x4, xi v10]) (rest := []) (b := 165) (c_X2_comesTo (d + 2) x4 v10 h12 _ hL hq) dX6_search_162 cw_X6_96 ⟨_, _, rfl, Nat.le_of_ble_eq_true rfl⟩ rfl rfl (Nat.le_of_ble_eq_true rfl) ⟨Nat.le_refl _, Nat.le_refl _⟩ rfl (fun rv hh hp _ => ?_)
        obtain ⟨rfl, rfl, hL⟩ := hp
        refine x_aload_n (i := 0) (b := 166) dX6_search_165 rfl rfl rfl ?_
        refine x_getL (j := 0) (t := (2, 0, false)) (b := 169) fk_X6_31 dX6_search_166 rfl hL rfl rfl rfl ?_
        obtain ⟨j15, e_j15, hF⟩ := rf_e hF
        refine x_getR (v := some (0, j15)) (b := 172) fk_X6_39 dX6_search_169 rfl e_j15 rfl ?_
        refine x_getL (j := j15) (t := (9, 0, true)) (b := 175) fk_X6_45 dX6_search_172 rfl hL rfl rfl rfl ?_
        refine x_getI (v := gI h14 9 j15 5) (b := 178) fk_X6_51 dX6_search_175 (by decide) rfl rfl ?_
        refine x_icmp_ne (tgt := 193) (b := 181) dX6_search_178 (by decide) rfl (fun hc => ?_) (fun hc => ?_)
        · replace hF := br_F hc hF
          refine x_iload_n (i := 1) (b := 194) dX6_search_193 rfl rfl rfl ?_
          refine x_iconst (n := 1) (b := 195) dX6_search_194 (by decide) rfl ?_
          obtain ⟨hs, hF⟩ := ck_e hF
          refine x_iadd (b := 196) dX6_search_195 hs rfl ?_
          refine x_iload_n (i := 2) (b := 197) dX6_search_196 rfl rfl rfl ?_
          refine x_icmp_ge (tgt := 240) (b := 200) dX6_search_197 (by decide) rfl (fun hc => ?_) (fun hc => ?_)
          · replace hF := br_T hc hF
            exact x_dp (ls2 := [some (xr 6 0), some (xi x1), some (xi x2), some (xi x3), some (xr 10 x4), some (xi x5), some (xi x6), none, none]) ⟨rfl, rfl, rfl, rfl, rfl, rfl, rfl, trivial⟩ (hr_240 x1 x2 x3 x4 x5 x6 h14 hL hF)
          · replace hF := br_F hc hF
            refine x_aload_n (i := 0) (b := 201) dX6_search_200 rfl rfl rfl ?_
            refine x_getL (j := 0) (t := (43, 0, true)) (b := 204) fk_X6_11 dX6_search_201 rfl hL rfl rfl rfl ?_
            refine x_iload_n (i := 1) (b := 205) dX6_search_204 rfl rfl rfl ?_
            refine x_iconst (n := 1) (b := 206) dX6_search_205 (by decide) rfl ?_
            obtain ⟨hs, hF⟩ := ck_e hF
            refine x_iadd (b := 207) dX6_search_206 hs rfl ?_
            obtain ⟨hs, hF⟩ := ck_e hF
            obtain ⟨j18, e_j18, hF⟩ := rf_e hF
            refine x_aaldV (v := some (10, j18)) (b := 208) ak_43 dX6_search_207 hs e_j18 rfl ?_
            refine x_aload (i := 4) (b := 210) dX6_search_208 rfl rfl ?_
            obtain ⟨v19, h20, hq, hF⟩ := bd_e hF
            refine x_callV (as := [xr 10 x4]) (rest := []) (b := 213) (c_X10_copyFrom (d + 4) j18 x4 h14 _ hL hq) dX6_search_210 cw_X6_56 ⟨_, _, rfl, Nat.le_of_ble_eq_true rfl⟩ rfl rfl (Nat.le_of_ble_eq_true rfl) ⟨Nat.le_refl _, Nat.le_refl _⟩ rfl (fun rv hh hp _ => ?_)
            obtain ⟨rfl, rfl, hL⟩ := hp
            refine x_aload_n (i := 0) (b := 214) dX6_search_213 rfl rfl rfl ?_
            refine x_getL (j := 0) (t := (2, 0, false)) (b := 217) fk_X6_31 dX6_search_214 rfl hL rfl rfl rfl ?_
            refine x_aload_n (i := 0) (b := 218) dX6_search_217 rfl rfl rfl ?_
            refine x_getL (j := 0) (t := (43, 0, true)) (b := 221) fk_X6_11 dX6_search_218 rfl hL rfl rfl rfl ?_
            refine x_iload_n (i := 1) (b := 222) dX6_search_221 rfl rfl rfl ?_
            refine x_iconst (n := 1) (b := 223) dX6_search_222 (by decide) rfl ?_
            obtain ⟨hs, hF⟩ := ck_e hF
            refine x_iadd (b := 224) dX6_search_223 hs rfl ?_
            obtain ⟨hs, hF⟩ := ck_e hF
            obtain ⟨j21, e_j21, hF⟩ := rf_e hF
            refine x_aaldV (v := some (10, j21)) (b := 225) ak_43 dX6_search_224 hs e_j21 rfl ?_
            refine x_iload (i := 8) (b := 227) dX6_search_225 rfl rfl ?_
            obtain ⟨v22, h23, hq, hF⟩ := bd_e hF
            refine x_callV (as := [xr 10 j21, xi v10]) (rest := []) (b := 230) (c_X2_sail (d + 1) j21 v10 h20 _ hL hq) dX6_search_227 cw_X6_104 ⟨_, _, rfl, Nat.le_of_ble_eq_true rfl⟩ rfl rfl (Nat.le_of_ble_eq_true rfl) ⟨Nat.le_refl _, Nat.le_refl _⟩ rfl (fun rv hh hp _ => ?_)
            obtain ⟨rfl, rfl, hL⟩ := hp
            refine x_aload_n (i := 0) (b := 231) dX6_search_230 rfl rfl rfl ?_
            refine x_iload_n (i := 1) (b := 232) dX6_search_231 rfl rfl rfl ?_
            refine x_iconst (n := 1) (b := 233) dX6_search_232 (by decide) rfl ?_
            obtain ⟨hs, hF⟩ := ck_e hF
            refine x_iadd (b := 234) dX6_search_233 hs rfl ?_
            refine x_iload_n (i := 2) (b := 235) dX6_search_234 rfl rfl rfl ?_
            refine x_iload (i := 7) (b := 237) dX6_search_235 rfl rfl ?_
            obtain ⟨v24, h25, hq, hF⟩ := bd_e hF
            refine x_callV (as := [xi (x1 + 1), xi x2, xi z5]) (rest := []) (b := 240) (hc_X6_search (x1 + 1) x2 z5 h23 _ hL hq) dX6_search_237 cw_X6_60 ⟨_, _, rfl, Nat.le_of_ble_eq_true rfl⟩ rfl rfl (Nat.le_of_ble_eq_true rfl) ⟨Nat.le_refl _, Nat.le_refl _⟩ rfl (fun rv hh hp _ => ?_)
            obtain ⟨rfl, rfl, hL⟩ := hp
            exact x_dp (ls2 := [some (xr 6 0), some (xi x1), some (xi x2), some (xi x3), some (xr 10 x4), some (xi x5), some (xi x6), none, none]) ⟨rfl, rfl, rfl, rfl, rfl, rfl, rfl, trivial⟩ (hr_240 x1 x2 x3 x4 x5 x6 h25 hL hF)
        · replace hF := br_T hc hF
          refine x_aload_n (i := 0) (b := 182) dX6_search_181 rfl rfl rfl ?_
          refine x_iload (i := 7) (b := 184) dX6_search_182 rfl rfl ?_
          refine x_iload_n (i := 1) (b := 185) dX6_search_184 rfl rfl rfl ?_
          refine x_iconst (n := 1) (b := 186) dX6_search_185 (by decide) rfl ?_
          obtain ⟨hs, hF⟩ := ck_e hF
          refine x_iadd (b := 187) dX6_search_186 hs rfl ?_
          obtain ⟨v16, h17, hq, hF⟩ := bd_e hF
          refine x_callV (as := [xi z5, xi (x1 + 1)]) (rest := []) (b := 190) (c_X6_take (d + 4) z5 (x1 + 1) h14 _ hL hq) dX6_search_187 cw_X6_100 ⟨_, _, rfl, Nat.le_of_ble_eq_true rfl⟩ rfl rfl (Nat.le_of_ble_eq_true rfl) ⟨Nat.le_refl _, Nat.le_refl _⟩ rfl (fun rv hh hp _ => ?_)
          obtain ⟨rfl, rfl, hL⟩ := hp
          refine x_goto (tgt := 240) dX6_search_190 (by decide) ?_
          exact x_dp (ls2 := [some (xr 6 0), some (xi x1), some (xi x2), some (xi x3), some (xr 10 x4), some (xi x5), some (xi x6), none, none]) ⟨rfl, rfl, rfl, rfl, rfl, rfl, rfl, trivial⟩ (hr_240 x1 x2 x3 x4 x5 x6 h17 hL hF)
      · replace hF := br_F hc hF
        refine x_goto (tgt := 240) dX6_search_123 (by decide) ?_
        exact x_dp (ls2 := [some (xr 6 0), some (xi x1), some (xi x2), some (xi x3), some (xr 10 x4), some (xi x5), some (xi x6), none, none]) ⟨rfl, rfl, rfl, rfl, rfl, rfl, rfl, trivial⟩ (hr_240 x1 x2 x3 x4 x5 x6 h7 hL hF)
    · replace hF := br_F hc hF
      refine x_goto (tgt := 240) dX6_search_78 (by decide) ?_
      exact x_dp (ls2 := [some (xr 6 0), some (xi x1), some (xi x2), some (xi x3), some (xr 10 x4), some (xi x5), some (xi x6), none, none]) ⟨rfl, rfl, rfl, rfl, rfl, rfl, rfl, trivial⟩ (hr_240 x1 x2 x3 x4 x5 x6 h hL hF)
set_option maxHeartbeats 4000000 in
set_option maxRecDepth 100000 in
theorem t_grpS_2 (E : xE) (d : Nat) (rec : Rk) (r : Int × Hp) (hr_61 : ∀ (x1 x2 x3 x4 x5 x6 : Int) (h : Hp), Lay h → rec 1 [x1, x2, x3, x4, x5, x6] h = some r → X E mX6_search (d + 6) (0, 0) (0, 0) 61 [some (xr 6 0), some (xi x1), some (xi x2), some (xi x3), some (xr 10 x4), some (xi x5), some (xi x6), none, none] [] h (PoV r)) (x1 x2 x3 x4 x5 x6 : Int) (h : Hp) (hL : Lay h) (hF : b_grpS_2 rec x1 x2 x3 x4 x5 x6 h = some r) : X E mX6_search (d + 6) (0, 0) (0, 0) 240 [some (xr 6 0), some (xi x1), some (xi x2), some (xi x3), some (xr 10 x4), some (xi x5), some (xi x6), none, none] [] h (PoV r) := by
  unfold b_grpS_2 at hF
  obtain ⟨hs, hF⟩ := ck_e hF
  refine x_iinc (i := 6) (b := 243) (ls2 := [some (xr 6 0), some (xi x1), some (xi x2), some (xi x3), some (xr 10 x4), some (xi x5), some (xi (x6 + 1)), none, none]) dX6_search_240 rfl (Nat.le_of_ble_eq_true rfl) hs rfl rfl ?_
  refine x_goto (tgt := 61) dX6_search_243 (by decide) ?_
  exact x_dp (ls2 := [some (xr 6 0), some (xi x1), some (xi x2), some (xi x3), some (xr 10 x4), some (xi x5), some (xi (x6 + 1)), none, none]) ⟨rfl, rfl, rfl, rfl, rfl, rfl, rfl, trivial⟩ (hr_61 x1 x2 x3 x4 x5 (x6 + 1) h hL hF)
set_option maxHeartbeats 4000000 in
set_option maxRecDepth 100000 in
theorem u_grpS : ∀ (n d : Nat), n ≤ d → (∀ (E : xE) (r : Int × Hp) (x1 x2 x3 : Int) (h : Hp), Lay h → g_grpS n 0 [x1, x2, x3] h = some r → X E mX6_search (d + 5) (0, 0) (0, 0) 0 [some (xr 6 0), some (xi x1), some (xi x2), some (xi x3), none, none, none, none, none] [] h (PoV r)) ∧ (∀ (E : xE) (r : Int × Hp) (x1 x2 x3 x4 x5 x6 : Int) (h : Hp), Lay h → g_grpS n 1 [x1, x2, x3, x4, x5, x6] h = some r → X E mX6_search (d + 5) (0, 0) (0, 0) 61 [some (xr 6 0), some (xi x1), some (xi x2), some (xi x3), some (xr 10 x4), some (xi x5), some (xi x6), none, none] [] h (PoV r)) ∧ (∀ (E : xE) (r : Int × Hp) (x1 x2 x3 x4 x5 x6 : Int) (h : Hp), Lay h → g_grpS n 2 [x1, x2, x3, x4, x5, x6] h = some r → X E mX6_search (d + 5) (0, 0) (0, 0) 240 [some (xr 6 0), some (xi x1), some (xi x2), some (xi x3), some (xr 10 x4), some (xi x5), some (xi x6), none, none] [] h (PoV r)) := by
  intro n
  induction n with
  | zero => intro d hd; exact ⟨fun _ r _ _ _ _ _ hF => no_e (r := r) hF, fun _ r _ _ _ _ _ _ _ _ hF => no_e (r := r) hF, fun _ r _ _ _ _ _ _ _ _ hF => no_e (r := r) hF⟩
  | succ n ih =>
    intro d hd
    obtain ⟨d, rfl⟩ : ∃ d2, d = d2 + 1 := ⟨d - 1, by omega⟩
    have ih0 := ih d (by omega)
    have ih1 := ih (d + 1) (by omega)
    exact ⟨fun E r x1 x2 x3 h hL hF => t_grpS_0 E d (g_grpS n) r (ih1.2.1 E r)  x1 x2 x3 h hL hF, fun E r x1 x2 x3 x4 x5 x6 h hL hF => t_grpS_1 E d (g_grpS n) r (ih1.2.2 E r) (fun x1 x2 x3 h r hL hF => sp_of (by decide) rfl (Nat.le_of_ble_eq_true rfl) (ls := [some (xr 6 0), some (xi x1), some (xi x2), some (xi x3), none, none, none, none, none]) rfl (fun E _ => ih0.1 E r x1 x2 x3 h hL hF)) x1 x2 x3 x4 x5 x6 h hL hF, fun E r x1 x2 x3 x4 x5 x6 h hL hF => t_grpS_2 E d (g_grpS n) r (ih1.2.1 E r)  x1 x2 x3 x4 x5 x6 h hL hF⟩
noncomputable def f_X6_search (x1 x2 x3 : Int) (h : Hp) : Option (Int × Hp) := g_grpS 1000 0 [x1, x2, x3] h
theorem c_X6_search (d : Nat) (x1 x2 x3 : Int) (h : Hp) (r : Int × Hp) (hL : Lay h) (hF : f_X6_search x1 x2 x3 h = some r) : Sp mX6_search (d + 1005) (0, 0) [xr 6 0, xi x1, xi x2, xi x3] h (PoV r) :=
  sp_of (by decide) rfl (Nat.le_of_ble_eq_true rfl) (ls := [some (xr 6 0), some (xi x1), some (xi x2), some (xi x3), none, none, none, none, none]) rfl (fun E _ => (u_grpS 1000 (d + 1000) (by omega)).1 E r x1 x2 x3 h hL hF)
theorem dX0_close_0 : decode cX0_close 0 = .ok (.iconst 0, 1) := by decide +kernel
theorem dX0_close_1 : decode cX0_close 1 = .ok (.istore_n 1, 1) := by decide +kernel
theorem dX0_close_2 : decode cX0_close 2 = .ok (.iload_n 1, 1) := by decide +kernel
theorem dX0_close_3 : decode cX0_close 3 = .ok (.aload_n 0, 1) := by decide +kernel
theorem dX0_close_4 : decode cX0_close 4 = .ok (.getfield 35, 3) := by decide +kernel
theorem dX0_close_7 : decode cX0_close 7 = .ok (.if_icmp .ge 68, 3) := by decide +kernel
theorem dX0_close_10 : decode cX0_close 10 = .ok (.aload_n 0, 1) := by decide +kernel
theorem dX0_close_11 : decode cX0_close 11 = .ok (.getfield 31, 3) := by decide +kernel
theorem dX0_close_14 : decode cX0_close 14 = .ok (.iload_n 1, 1) := by decide +kernel
theorem dX0_close_15 : decode cX0_close 15 = .ok (.iadd, 1) := by decide +kernel
theorem dX0_close_16 : decode cX0_close 16 = .ok (.bipush 9, 2) := by decide +kernel
theorem dX0_close_18 : decode cX0_close 18 = .ok (.if_icmp .ge 57, 3) := by decide +kernel
theorem dX0_close_21 : decode cX0_close 21 = .ok (.iconst 5, 1) := by decide +kernel
theorem dX0_close_22 : decode cX0_close 22 = .ok (.iload_n 1, 1) := by decide +kernel
theorem dX0_close_23 : decode cX0_close 23 = .ok (.iadd, 1) := by decide +kernel
theorem dX0_close_24 : decode cX0_close 24 = .ok (.bipush 9, 2) := by decide +kernel
theorem dX0_close_26 : decode cX0_close 26 = .ok (.if_icmp .ge 49, 3) := by decide +kernel
theorem dX0_close_29 : decode cX0_close 29 = .ok (.aload_n 0, 1) := by decide +kernel
theorem dX0_close_30 : decode cX0_close 30 = .ok (.getfield 27, 3) := by decide +kernel
theorem dX0_close_33 : decode cX0_close 33 = .ok (.iconst 5, 1) := by decide +kernel
theorem dX0_close_34 : decode cX0_close 34 = .ok (.iload_n 1, 1) := by decide +kernel
theorem dX0_close_35 : decode cX0_close 35 = .ok (.iadd, 1) := by decide +kernel
theorem dX0_close_36 : decode cX0_close 36 = .ok (.aaload, 1) := by decide +kernel
theorem dX0_close_37 : decode cX0_close 37 = .ok (.astore_n 2, 1) := by decide +kernel
theorem dX0_close_38 : decode cX0_close 38 = .ok (.aload_n 0, 1) := by decide +kernel
theorem dX0_close_39 : decode cX0_close 39 = .ok (.getfield 27, 3) := by decide +kernel
theorem dX0_close_42 : decode cX0_close 42 = .ok (.iconst 5, 1) := by decide +kernel
theorem dX0_close_43 : decode cX0_close 43 = .ok (.iload_n 1, 1) := by decide +kernel
theorem dX0_close_44 : decode cX0_close 44 = .ok (.iadd, 1) := by decide +kernel
theorem dX0_close_45 : decode cX0_close 45 = .ok (.aload_n 0, 1) := by decide +kernel
theorem dX0_close_46 : decode cX0_close 46 = .ok (.getfield 27, 3) := by decide +kernel
theorem dX0_close_49 : decode cX0_close 49 = .ok (.aload_n 0, 1) := by decide +kernel
theorem dX0_close_50 : decode cX0_close 50 = .ok (.getfield 31, 3) := by decide +kernel
theorem dX0_close_53 : decode cX0_close 53 = .ok (.iload_n 1, 1) := by decide +kernel
theorem dX0_close_54 : decode cX0_close 54 = .ok (.iadd, 1) := by decide +kernel
theorem dX0_close_55 : decode cX0_close 55 = .ok (.aaload, 1) := by decide +kernel
theorem dX0_close_56 : decode cX0_close 56 = .ok (.aastore, 1) := by decide +kernel
theorem dX0_close_57 : decode cX0_close 57 = .ok (.aload_n 0, 1) := by decide +kernel
theorem dX0_close_58 : decode cX0_close 58 = .ok (.getfield 27, 3) := by decide +kernel
theorem dX0_close_61 : decode cX0_close 61 = .ok (.aload_n 0, 1) := by decide +kernel
theorem dX0_close_62 : decode cX0_close 62 = .ok (.getfield 31, 3) := by decide +kernel
theorem dX0_close_65 : decode cX0_close 65 = .ok (.iload_n 1, 1) := by decide +kernel
theorem dX0_close_66 : decode cX0_close 66 = .ok (.iadd, 1) := by decide +kernel
theorem dX0_close_67 : decode cX0_close 67 = .ok (.aload_n 2, 1) := by decide +kernel
theorem dX0_close_68 : decode cX0_close 68 = .ok (.aastore, 1) := by decide +kernel
theorem dX0_close_69 : decode cX0_close 69 = .ok (.iinc 1 1, 3) := by decide +kernel
theorem dX0_close_72 : decode cX0_close 72 = .ok (.goto (-70), 3) := by decide +kernel
theorem dX0_close_75 : decode cX0_close 75 = .ok (.aload_n 0, 1) := by decide +kernel
theorem dX0_close_76 : decode cX0_close 76 = .ok (.getfield 12, 3) := by decide +kernel
theorem dX0_close_79 : decode cX0_close 79 = .ok (.invokevirtual 73, 3) := by decide +kernel
theorem dX0_close_82 : decode cX0_close 82 = .ok (.return_, 1) := by decide +kernel
noncomputable def b_X0_close_0 (rec : Rk) (x0 : Int) (h : Hp) : Option (Int × Hp) :=
  rec 1 [x0, 0] h
noncomputable def b_X0_close_1 (rec : Rk) (x0 x1 : Int) (h : Hp) : Option (Int × Hp) :=
  if (gI h 0 x0 4) ≤ x1 then (
    rec 2 [x0] h
  ) else (
    ck (-2147483648 ≤ (gI h 0 x0 3) + x1 ∧ (gI h 0 x0 3) + x1 < 2147483648) <|
    if 9 ≤ ((gI h 0 x0 3) + x1) then (
      rec 2 [x0] h
    ) else (
      ck (-2147483648 ≤ 5 + x1 ∧ 5 + x1 < 2147483648) <|
      if 9 ≤ (5 + x1) then (
        rec 2 [x0] h
      ) else (
        ck (-2147483648 ≤ 5 + x1 ∧ 5 + x1 < 2147483648) <|
        ck (0 ≤ (5 + x1) ∧ (5 + x1) < 9) <|
        rf (gR h 20 x0 (5 + x1)) 4 fun j1 =>
        ck (-2147483648 ≤ 5 + x1 ∧ 5 + x1 < 2147483648) <|
        ck (-2147483648 ≤ (gI h 0 x0 3) + x1 ∧ (gI h 0 x0 3) + x1 < 2147483648) <|
        ck (0 ≤ ((gI h 0 x0 3) + x1) ∧ ((gI h 0 x0 3) + x1) < 9) <|
        rf (gR h 20 x0 ((gI h 0 x0 3) + x1)) 4 fun j2 =>
        ck (0 ≤ (5 + x1) ∧ (5 + x1) < 9) <|
        lt (sR h 20 x0 (5 + x1) (some (4, j2))) fun h3 =>
        ck (-2147483648 ≤ (gI h3 0 x0 3) + x1 ∧ (gI h3 0 x0 3) + x1 < 2147483648) <|
        ck (0 ≤ ((gI h3 0 x0 3) + x1) ∧ ((gI h3 0 x0 3) + x1) < 9) <|
        lt (sR h3 20 x0 ((gI h3 0 x0 3) + x1) (some (4, j1))) fun h4 =>
        ck (-2147483648 ≤ x1 + 1 ∧ x1 + 1 < 2147483648) <|
        rec 1 [x0, x1 + 1] h4
      )
    )
  )
noncomputable def b_X0_close_2 (rec : Rk) (x0 : Int) (h : Hp) : Option (Int × Hp) :=
  bd (f_X9_measure x0 h) fun v1 h2 =>
  some (0, h2)
noncomputable def g_X0_close (n : Nat) : Rk := Nat.rec (motive := fun _ => Rk) (fun _ _ _ => none) (fun _ rec k l h => if k = 0 then b_X0_close_0 rec (l.getD 0 0) h else if k = 1 then b_X0_close_1 rec (l.getD 0 0) (l.getD 1 0) h else if k = 2 then b_X0_close_2 rec (l.getD 0 0) h else none) n
noncomputable def f_X0_close (x0 : Int) (h : Hp) : Option (Int × Hp) := g_X0_close FU 0 [x0] h
set_option maxHeartbeats 4000000 in
set_option maxRecDepth 100000 in
theorem t_X0_close_0 (E : xE) (d : Nat) (rec : Rk) (r : Int × Hp) (hr_2 : ∀ (x0 x1 : Int) (h : Hp), Lay h → rec 1 [x0, x1] h = some r → X E mX0_close (d + 5) (0, 0) (0, 0) 2 [some (xr 0 x0), some (xi x1), none] [] h (PoV r)) (x0 : Int) (h : Hp) (hL : Lay h) (hF : b_X0_close_0 rec x0 h = some r) : X E mX0_close (d + 5) (0, 0) (0, 0) 0 [some (xr 0 x0), none, none] [] h (PoV r) := by
  unfold b_X0_close_0 at hF
  refine x_iconst (n := 0) (b := 1) dX0_close_0 (by decide) rfl ?_
  refine x_istore_n (i := 1) (b := 2) (ls2 := [some (xr 0 x0), some (xi 0), none]) dX0_close_1 rfl (Nat.le_of_ble_eq_true rfl) rfl rfl ?_
  exact x_dp (ls2 := [some (xr 0 x0), some (xi 0), none]) ⟨rfl, rfl, trivial⟩ (hr_2 x0 0 h hL hF)
set_option maxHeartbeats 4000000 in
set_option maxRecDepth 100000 in
theorem t_X0_close_1 (E : xE) (d : Nat) (rec : Rk) (r : Int × Hp) (hr_2 : ∀ (x0 x1 : Int) (h : Hp), Lay h → rec 1 [x0, x1] h = some r → X E mX0_close (d + 5) (0, 0) (0, 0) 2 [some (xr 0 x0), some (xi x1), none] [] h (PoV r)) (hr_75 : ∀ (x0 : Int) (h : Hp), Lay h → rec 2 [x0] h = some r → X E mX0_close (d + 5) (0, 0) (0, 0) 75 [some (xr 0 x0), none, none] [] h (PoV r)) (x0 x1 : Int) (h : Hp) (hL : Lay h) (hF : b_X0_close_1 rec x0 x1 h = some r) : X E mX0_close (d + 5) (0, 0) (0, 0) 2 [some (xr 0 x0), some (xi x1), none] [] h (PoV r) := by
  unfold b_X0_close_1 at hF
  refine x_iload_n (i := 1) (b := 3) dX0_close_2 rfl rfl rfl ?_
  refine x_aload_n (i := 0) (b := 4) dX0_close_3 rfl rfl rfl ?_
  refine x_getI (v := gI h 0 x0 4) (b := 7) fk_X0_35 dX0_close_4 (by decide) rfl rfl ?_
  refine x_icmp_ge (tgt := 75) (b := 10) dX0_close_7 (by decide) rfl (fun hc => ?_) (fun hc => ?_)
  · replace hF := br_T hc hF
    exact x_dp (ls2 := [some (xr 0 x0), none, none]) ⟨rfl, trivial⟩ (hr_75 x0 h hL hF)
  · replace hF := br_F hc hF
    refine x_aload_n (i := 0) (b := 11) dX0_close_10 rfl rfl rfl ?_
    refine x_getI (v := gI h 0 x0 3) (b := 14) fk_X0_31 dX0_close_11 (by decide) rfl rfl ?_
    refine x_iload_n (i := 1) (b := 15) dX0_close_14 rfl rfl rfl ?_
    obtain ⟨hs, hF⟩ := ck_e hF
    refine x_iadd (b := 16) dX0_close_15 hs rfl ?_
    refine x_bipush (n := 9) (b := 18) dX0_close_16 (by decide) rfl ?_
    refine x_icmp_ge (tgt := 75) (b := 21) dX0_close_18 (by decide) rfl (fun hc => ?_) (fun hc => ?_)
    · replace hF := br_T hc hF
      exact x_dp (ls2 := [some (xr 0 x0), none, none]) ⟨rfl, trivial⟩ (hr_75 x0 h hL hF)
    · replace hF := br_F hc hF
      refine x_iconst (n := 5) (b := 22) dX0_close_21 (by decide) rfl ?_
      refine x_iload_n (i := 1) (b := 23) dX0_close_22 rfl rfl rfl ?_
      obtain ⟨hs, hF⟩ := ck_e hF
      refine x_iadd (b := 24) dX0_close_23 hs rfl ?_
      refine x_bipush (n := 9) (b := 26) dX0_close_24 (by decide) rfl ?_
      refine x_icmp_ge (tgt := 75) (b := 29) dX0_close_26 (by decide) rfl (fun hc => ?_) (fun hc => ?_)
      · replace hF := br_T hc hF
        exact x_dp (ls2 := [some (xr 0 x0), none, none]) ⟨rfl, trivial⟩ (hr_75 x0 h hL hF)
      · replace hF := br_F hc hF
        refine x_aload_n (i := 0) (b := 30) dX0_close_29 rfl rfl rfl ?_
        refine x_getL (j := x0) (t := (20, 0, true)) (b := 33) fk_X0_27 dX0_close_30 rfl hL rfl rfl rfl ?_
        refine x_iconst (n := 5) (b := 34) dX0_close_33 (by decide) rfl ?_
        refine x_iload_n (i := 1) (b := 35) dX0_close_34 rfl rfl rfl ?_
        obtain ⟨hs, hF⟩ := ck_e hF
        refine x_iadd (b := 36) dX0_close_35 hs rfl ?_
        obtain ⟨hs, hF⟩ := ck_e hF
        obtain ⟨j1, e_j1, hF⟩ := rf_e hF
        refine x_aaldM (v := some (4, j1)) (b := 37) ak_20 dX0_close_36 hs e_j1 rfl ?_
        refine x_astore_n (i := 2) (b := 38) (ls2 := [some (xr 0 x0), some (xi x1), some (xr 4 j1)]) dX0_close_37 rfl (Nat.le_of_ble_eq_true rfl) rfl rfl ?_
        refine x_aload_n (i := 0) (b := 39) dX0_close_38 rfl rfl rfl ?_
        refine x_getL (j := x0) (t := (20, 0, true)) (b := 42) fk_X0_27 dX0_close_39 rfl hL rfl rfl rfl ?_
        refine x_iconst (n := 5) (b := 43) dX0_close_42 (by decide) rfl ?_
        refine x_iload_n (i := 1) (b := 44) dX0_close_43 rfl rfl rfl ?_
        obtain ⟨hs, hF⟩ := ck_e hF
        refine x_iadd (b := 45) dX0_close_44 hs rfl ?_
        refine x_aload_n (i := 0) (b := 46) dX0_close_45 rfl rfl rfl ?_
        refine x_getL (j := x0) (t := (20, 0, true)) (b := 49) fk_X0_27 dX0_close_46 rfl hL rfl rfl rfl ?_
        refine x_aload_n (i := 0) (b := 50) dX0_close_49 rfl rfl rfl ?_
        refine x_getI (v := gI h 0 x0 3) (b := 53) fk_X0_31 dX0_close_50 (by decide) rfl rfl ?_
        refine x_iload_n (i := 1) (b := 54) dX0_close_53 rfl rfl rfl ?_
        obtain ⟨hs, hF⟩ := ck_e hF
        refine x_iadd (b := 55) dX0_close_54 hs rfl ?_
        obtain ⟨hs, hF⟩ := ck_e hF
        obtain ⟨j2, e_j2, hF⟩ := rf_e hF
        refine x_aaldM (v := some (4, j2)) (b := 56) ak_20 dX0_close_55 hs e_j2 rfl ?_
        obtain ⟨hs, hF⟩ := ck_e hF
        have hs1 := hs
        refine x_aastM (b := 57) ak_20 dX0_close_56 hs1 rfl ?_
        obtain ⟨h3, e_h3, hF⟩ := lt_e hF
        refine x_hp (h2 := h3) e_h3 ?_
        replace hL : Lay h3 := by rw [← e_h3]; exact lay_sR hL (fun _ _ => xtg_hi (by decide))
        refine x_aload_n (i := 0) (b := 58) dX0_close_57 rfl rfl rfl ?_
        refine x_getL (j := x0) (t := (20, 0, true)) (b := 61) fk_X0_27 dX0_close_58 rfl hL rfl rfl rfl ?_
        refine x_aload_n (i := 0) (b := 62) dX0_close_61 rfl rfl rfl ?_
        refine x_getI (v := gI h3 0 x0 3) (b := 65) fk_X0_31 dX0_close_62 (by decide) rfl rfl ?_
        refine x_iload_n (i := 1) (b := 66) dX0_close_65 rfl rfl rfl ?_
        obtain ⟨hs, hF⟩ := ck_e hF
        refine x_iadd (b := 67) dX0_close_66 hs rfl ?_
        refine x_aload_n (i := 2) (b := 68) dX0_close_67 rfl rfl rfl ?_
        obtain ⟨hs, hF⟩ := ck_e hF
        have hs1 := hs
        refine x_aastM (b := 69) ak_20 dX0_close_68 hs1 rfl ?_
        obtain ⟨h4, e_h4, hF⟩ := lt_e hF
        refine x_hp (h2 := h4) e_h4 ?_
        replace hL : Lay h4 := by rw [← e_h4]; exact lay_sR hL (fun _ _ => xtg_hi (by decide))
        obtain ⟨hs, hF⟩ := ck_e hF
        refine x_iinc (i := 1) (b := 72) (ls2 := [some (xr 0 x0), some (xi (x1 + 1)), some (xr 4 j1)]) dX0_close_69 rfl (Nat.le_of_ble_eq_true rfl) hs rfl rfl ?_
        refine x_goto (tgt := 2) dX0_close_72 (by decide) ?_
        exact x_dp (ls2 := [some (xr 0 x0), some (xi (x1 + 1)), none]) ⟨rfl, rfl, trivial⟩ (hr_2 x0 (x1 + 1) h4 hL hF)
set_option maxHeartbeats 4000000 in
set_option maxRecDepth 100000 in
theorem t_X0_close_2 (E : xE) (d : Nat) (rec : Rk) (r : Int × Hp) (x0 : Int) (h : Hp) (hL : Lay h) (hF : b_X0_close_2 rec x0 h = some r) : X E mX0_close (d + 5) (0, 0) (0, 0) 75 [some (xr 0 x0), none, none] [] h (PoV r) := by
  unfold b_X0_close_2 at hF
  refine x_aload_n (i := 0) (b := 76) dX0_close_75 rfl rfl rfl ?_
  refine x_getL (j := x0) (t := (9, 0, true)) (b := 79) fk_X0_12 dX0_close_76 rfl hL rfl rfl rfl ?_
  obtain ⟨v1, h2, hq, hF⟩ := bd_e hF
  refine x_callV (as := []) (rest := []) (b := 82) (c_X9_measure d x0 h _ hL hq) dX0_close_79 cw_X0_73 ⟨_, _, rfl, Nat.le_of_ble_eq_true rfl⟩ rfl rfl (Nat.le_of_ble_eq_true rfl) ⟨Nat.le_refl _, Nat.le_refl _⟩ rfl (fun rv hh hp _ => ?_)
  obtain ⟨rfl, rfl, hL⟩ := hp
  refine x_return dX0_close_82 rfl ⟨Nat.le_refl _, Nat.le_refl _⟩ ?_
  cases hF
  exact ⟨rfl, rfl, hL⟩
set_option maxHeartbeats 4000000 in
set_option maxRecDepth 100000 in
theorem u_X0_close (E : xE) (d : Nat) (r : Int × Hp) : ∀ n : Nat, (∀ (x0 : Int) (h : Hp), Lay h → g_X0_close n 0 [x0] h = some r → X E mX0_close (d + 5) (0, 0) (0, 0) 0 [some (xr 0 x0), none, none] [] h (PoV r)) ∧ (∀ (x0 x1 : Int) (h : Hp), Lay h → g_X0_close n 1 [x0, x1] h = some r → X E mX0_close (d + 5) (0, 0) (0, 0) 2 [some (xr 0 x0), some (xi x1), none] [] h (PoV r)) ∧ (∀ (x0 : Int) (h : Hp), Lay h → g_X0_close n 2 [x0] h = some r → X E mX0_close (d + 5) (0, 0) (0, 0) 75 [some (xr 0 x0), none, none] [] h (PoV r)) := by
  intro n
  induction n with
  | zero => exact ⟨fun _ _ _ hF => no_e (r := r) hF, fun _ _ _ _ hF => no_e (r := r) hF, fun _ _ _ hF => no_e (r := r) hF⟩
  | succ n ih => exact ⟨fun x0 h hL hF => t_X0_close_0 E d (g_X0_close n) r ih.2.1 x0 h hL hF, fun x0 x1 h hL hF => t_X0_close_1 E d (g_X0_close n) r ih.2.1 ih.2.2 x0 x1 h hL hF, fun x0 h hL hF => t_X0_close_2 E d (g_X0_close n) r  x0 h hL hF⟩
theorem c_X0_close (d : Nat) (x0 : Int) (h : Hp) (r : Int × Hp) (hL : Lay h) (hF : f_X0_close x0 h = some r) : Sp mX0_close (d + 5) (0, 0) [xr 0 x0] h (PoV r) :=
  sp_of (by decide) rfl (Nat.le_of_ble_eq_true rfl) (ls := [some (xr 0 x0), none, none]) rfl (fun E _ => (u_X0_close E d r FU).1 x0 h hL hF)
theorem dX11_count_0 : decode cX11_count 0 = .ok (.iload_n 1, 1) := by decide +kernel
theorem dX11_count_1 : decode cX11_count 1 = .ok (.tableswitch 160 0 10 #[59, 70, 81, 89, 97, 108, 119, 127, 135, 143, 148], 59) := by decide +kernel
theorem dX11_count_60 : decode cX11_count 60 = .ok (.aload_n 0, 1) := by decide +kernel
theorem dX11_count_61 : decode cX11_count 61 = .ok (.getfield 20, 3) := by decide +kernel
theorem dX11_count_64 : decode cX11_count 64 = .ok (.getfield 122, 3) := by decide +kernel
theorem dX11_count_67 : decode cX11_count 67 = .ok (.getfield 342, 3) := by decide +kernel
theorem dX11_count_70 : decode cX11_count 70 = .ok (.ireturn, 1) := by decide +kernel
theorem dX11_count_71 : decode cX11_count 71 = .ok (.aload_n 0, 1) := by decide +kernel
theorem dX11_count_72 : decode cX11_count 72 = .ok (.getfield 20, 3) := by decide +kernel
theorem dX11_count_75 : decode cX11_count 75 = .ok (.getfield 122, 3) := by decide +kernel
theorem dX11_count_78 : decode cX11_count 78 = .ok (.getfield 345, 3) := by decide +kernel
theorem dX11_count_81 : decode cX11_count 81 = .ok (.ireturn, 1) := by decide +kernel
theorem dX11_count_82 : decode cX11_count 82 = .ok (.aload_n 0, 1) := by decide +kernel
theorem dX11_count_83 : decode cX11_count 83 = .ok (.getfield 20, 3) := by decide +kernel
theorem dX11_count_86 : decode cX11_count 86 = .ok (.getfield 234, 3) := by decide +kernel
theorem dX11_count_89 : decode cX11_count 89 = .ok (.ireturn, 1) := by decide +kernel
theorem dX11_count_90 : decode cX11_count 90 = .ok (.aload_n 0, 1) := by decide +kernel
theorem dX11_count_91 : decode cX11_count 91 = .ok (.getfield 20, 3) := by decide +kernel
theorem dX11_count_94 : decode cX11_count 94 = .ok (.getfield 237, 3) := by decide +kernel
theorem dX11_count_97 : decode cX11_count 97 = .ok (.ireturn, 1) := by decide +kernel
theorem dX11_count_98 : decode cX11_count 98 = .ok (.aload_n 0, 1) := by decide +kernel
theorem dX11_count_99 : decode cX11_count 99 = .ok (.getfield 20, 3) := by decide +kernel
theorem dX11_count_102 : decode cX11_count 102 = .ok (.getfield 122, 3) := by decide +kernel
theorem dX11_count_105 : decode cX11_count 105 = .ok (.getfield 348, 3) := by decide +kernel
theorem dX11_count_108 : decode cX11_count 108 = .ok (.ireturn, 1) := by decide +kernel
theorem dX11_count_109 : decode cX11_count 109 = .ok (.aload_n 0, 1) := by decide +kernel
theorem dX11_count_110 : decode cX11_count 110 = .ok (.getfield 20, 3) := by decide +kernel
theorem dX11_count_113 : decode cX11_count 113 = .ok (.getfield 351, 3) := by decide +kernel
theorem dX11_count_116 : decode cX11_count 116 = .ok (.getfield 355, 3) := by decide +kernel
theorem dX11_count_119 : decode cX11_count 119 = .ok (.ireturn, 1) := by decide +kernel
theorem dX11_count_120 : decode cX11_count 120 = .ok (.aload_n 0, 1) := by decide +kernel
theorem dX11_count_121 : decode cX11_count 121 = .ok (.getfield 57, 3) := by decide +kernel
theorem dX11_count_124 : decode cX11_count 124 = .ok (.getfield 195, 3) := by decide +kernel
theorem dX11_count_127 : decode cX11_count 127 = .ok (.ireturn, 1) := by decide +kernel
theorem dX11_count_128 : decode cX11_count 128 = .ok (.aload_n 0, 1) := by decide +kernel
theorem dX11_count_129 : decode cX11_count 129 = .ok (.getfield 88, 3) := by decide +kernel
theorem dX11_count_132 : decode cX11_count 132 = .ok (.getfield 305, 3) := by decide +kernel
theorem dX11_count_135 : decode cX11_count 135 = .ok (.ireturn, 1) := by decide +kernel
theorem dX11_count_136 : decode cX11_count 136 = .ok (.aload_n 0, 1) := by decide +kernel
theorem dX11_count_137 : decode cX11_count 137 = .ok (.getfield 88, 3) := by decide +kernel
theorem dX11_count_140 : decode cX11_count 140 = .ok (.invokevirtual 356, 3) := by decide +kernel
theorem dX11_count_143 : decode cX11_count 143 = .ok (.ireturn, 1) := by decide +kernel
theorem dX11_count_144 : decode cX11_count 144 = .ok (.aload_n 0, 1) := by decide +kernel
theorem dX11_count_145 : decode cX11_count 145 = .ok (.getfield 72, 3) := by decide +kernel
theorem dX11_count_148 : decode cX11_count 148 = .ok (.ireturn, 1) := by decide +kernel
theorem dX11_count_149 : decode cX11_count 149 = .ok (.aload_n 0, 1) := by decide +kernel
theorem dX11_count_150 : decode cX11_count 150 = .ok (.getfield 41, 3) := by decide +kernel
theorem dX11_count_153 : decode cX11_count 153 = .ok (.aload_n 0, 1) := by decide +kernel
theorem dX11_count_154 : decode cX11_count 154 = .ok (.getfield 57, 3) := by decide +kernel
theorem dX11_count_157 : decode cX11_count 157 = .ok (.invokevirtual 288, 3) := by decide +kernel
theorem dX11_count_160 : decode cX11_count 160 = .ok (.ireturn, 1) := by decide +kernel
theorem dX11_count_161 : decode cX11_count 161 = .ok (.iconst (-1), 1) := by decide +kernel
theorem dX11_count_162 : decode cX11_count 162 = .ok (.ireturn, 1) := by decide +kernel
noncomputable def b_X11_count_0 (rec : Rk) (x1 : Int) (h : Hp) : Option (Int × Hp) :=
  if x1 = 0 then (
    rf (gR h 11 0 2) 0 fun j1 =>
    some (gI h 9 j1 0, h)
  ) else (
  if x1 = 1 then (
    rf (gR h 11 0 2) 0 fun j2 =>
    some (gI h 9 j2 1, h)
  ) else (
  if x1 = 2 then (
    rf (gR h 11 0 2) 0 fun j3 =>
    some (gI h 0 j3 3, h)
  ) else (
  if x1 = 3 then (
    rf (gR h 11 0 2) 0 fun j4 =>
    some (gI h 0 j4 4, h)
  ) else (
  if x1 = 4 then (
    rf (gR h 11 0 2) 0 fun j5 =>
    some (gI h 9 j5 6, h)
  ) else (
  if x1 = 5 then (
    rf (gR h 11 0 2) 0 fun j6 =>
    some (gI h 1 j6 2, h)
  ) else (
  if x1 = 6 then (
    some (gI h 10 0 0, h)
  ) else (
  if x1 = 7 then (
    some (gI h 5 0 4, h)
  ) else (
  if x1 = 8 then (
    bd (f_X5_inForce h) fun v7 h8 =>
    some (v7, h8)
  ) else (
  if x1 = 9 then (
    some (gI h 11 0 10, h)
  ) else (
  if x1 = 10 then (
    bd (f_X2_aboard 0 h) fun v9 h10 =>
    some (v9, h10)
  ) else (
  some ((-1), h)
  )
  )
  )
  )
  )
  )
  )
  )
  )
  )
  )
noncomputable def g_X11_count (n : Nat) : Rk := Nat.rec (motive := fun _ => Rk) (fun _ _ _ => none) (fun _ rec k l h => if k = 0 then b_X11_count_0 rec (l.getD 0 0) h else none) n
noncomputable def f_X11_count (x1 : Int) (h : Hp) : Option (Int × Hp) := g_X11_count FU 0 [x1] h
set_option maxHeartbeats 4000000 in
set_option maxRecDepth 100000 in
theorem t_X11_count_0 (E : xE) (d : Nat) (rec : Rk) (r : Int × Hp) (x1 : Int) (h : Hp) (hL : Lay h) (hF : b_X11_count_0 rec x1 h = some r) : X E mX11_count (d + 5) (0, 0) (0, 0) 0 [some (xr 11 0), some (xi x1)] [] h (PoI r) := by
  unfold b_X11_count_0 at hF
  refine x_iload_n (i := 1) (b := 1) dX11_count_0 rfl rfl rfl ?_
  by_cases hw1_0 : x1 = 0
  · replace hF := br_T hw1_0 hF
    refine x_tableIn (tgt := 60) dX11_count_1 0 hw1_0 ⟨by decide, by decide⟩ rfl (by decide) ?_
    refine x_aload_n (i := 0) (b := 61) dX11_count_60 rfl rfl rfl ?_
    obtain ⟨j1, e_j1, hF⟩ := rf_e hF
    refine x_getR (v := some (0, j1)) (b := 64) fk_X11_20 dX11_count_61 rfl e_j1 rfl ?_
    refine x_getL (j := j1) (t := (9, 0, true)) (b := 67) fk_X11_122 dX11_count_64 rfl hL rfl rfl rfl ?_
    refine x_getI (v := gI h 9 j1 0) (b := 70) fk_X11_342 dX11_count_67 (by decide) rfl rfl ?_
    refine x_ireturn dX11_count_70 rfl ⟨Nat.le_refl _, Nat.le_refl _⟩ ?_
    cases hF
    exact ⟨rfl, rfl, hL⟩
  replace hF := br_F hw1_0 hF
  by_cases hw1_1 : x1 = 1
  · replace hF := br_T hw1_1 hF
    refine x_tableIn (tgt := 71) dX11_count_1 1 hw1_1 ⟨by decide, by decide⟩ rfl (by decide) ?_
    refine x_aload_n (i := 0) (b := 72) dX11_count_71 rfl rfl rfl ?_
    obtain ⟨j2, e_j2, hF⟩ := rf_e hF
    refine x_getR (v := some (0, j2)) (b := 75) fk_X11_20 dX11_count_72 rfl e_j2 rfl ?_
    refine x_getL (j := j2) (t := (9, 0, true)) (b := 78) fk_X11_122 dX11_count_75 rfl hL rfl rfl rfl ?_
    refine x_getI (v := gI h 9 j2 1) (b := 81) fk_X11_345 dX11_count_78 (by decide) rfl rfl ?_
    refine x_ireturn dX11_count_81 rfl ⟨Nat.le_refl _, Nat.le_refl _⟩ ?_
    cases hF
    exact ⟨rfl, rfl, hL⟩
  replace hF := br_F hw1_1 hF
  by_cases hw1_2 : x1 = 2
  · replace hF := br_T hw1_2 hF
    refine x_tableIn (tgt := 82) dX11_count_1 2 hw1_2 ⟨by decide, by decide⟩ rfl (by decide) ?_
    refine x_aload_n (i := 0) (b := 83) dX11_count_82 rfl rfl rfl ?_
    obtain ⟨j3, e_j3, hF⟩ := rf_e hF
    refine x_getR (v := some (0, j3)) (b := 86) fk_X11_20 dX11_count_83 rfl e_j3 rfl ?_
    refine x_getI (v := gI h 0 j3 3) (b := 89) fk_X11_234 dX11_count_86 (by decide) rfl rfl ?_
    refine x_ireturn dX11_count_89 rfl ⟨Nat.le_refl _, Nat.le_refl _⟩ ?_
    cases hF
    exact ⟨rfl, rfl, hL⟩
  replace hF := br_F hw1_2 hF
  by_cases hw1_3 : x1 = 3
  · replace hF := br_T hw1_3 hF
    refine x_tableIn (tgt := 90) dX11_count_1 3 hw1_3 ⟨by decide, by decide⟩ rfl (by decide) ?_
    refine x_aload_n (i := 0) (b := 91) dX11_count_90 rfl rfl rfl ?_
    obtain ⟨j4, e_j4, hF⟩ := rf_e hF
    refine x_getR (v := some (0, j4)) (b := 94) fk_X11_20 dX11_count_91 rfl e_j4 rfl ?_
    refine x_getI (v := gI h 0 j4 4) (b := 97) fk_X11_237 dX11_count_94 (by decide) rfl rfl ?_
    refine x_ireturn dX11_count_97 rfl ⟨Nat.le_refl _, Nat.le_refl _⟩ ?_
    cases hF
    exact ⟨rfl, rfl, hL⟩
  replace hF := br_F hw1_3 hF
  by_cases hw1_4 : x1 = 4
  · replace hF := br_T hw1_4 hF
    refine x_tableIn (tgt := 98) dX11_count_1 4 hw1_4 ⟨by decide, by decide⟩ rfl (by decide) ?_
    refine x_aload_n (i := 0) (b := 99) dX11_count_98 rfl rfl rfl ?_
    obtain ⟨j5, e_j5, hF⟩ := rf_e hF
    refine x_getR (v := some (0, j5)) (b := 102) fk_X11_20 dX11_count_99 rfl e_j5 rfl ?_
    refine x_getL (j := j5) (t := (9, 0, true)) (b := 105) fk_X11_122 dX11_count_102 rfl hL rfl rfl rfl ?_
    refine x_getI (v := gI h 9 j5 6) (b := 108) fk_X11_348 dX11_count_105 (by decide) rfl rfl ?_
    refine x_ireturn dX11_count_108 rfl ⟨Nat.le_refl _, Nat.le_refl _⟩ ?_
    cases hF
    exact ⟨rfl, rfl, hL⟩
  replace hF := br_F hw1_4 hF
  by_cases hw1_5 : x1 = 5
  · replace hF := br_T hw1_5 hF
    refine x_tableIn (tgt := 109) dX11_count_1 5 hw1_5 ⟨by decide, by decide⟩ rfl (by decide) ?_
    refine x_aload_n (i := 0) (b := 110) dX11_count_109 rfl rfl rfl ?_
    obtain ⟨j6, e_j6, hF⟩ := rf_e hF
    refine x_getR (v := some (0, j6)) (b := 113) fk_X11_20 dX11_count_110 rfl e_j6 rfl ?_
    refine x_getL (j := j6) (t := (1, 0, true)) (b := 116) fk_X11_351 dX11_count_113 rfl hL rfl rfl rfl ?_
    refine x_getI (v := gI h 1 j6 2) (b := 119) fk_X11_355 dX11_count_116 (by decide) rfl rfl ?_
    refine x_ireturn dX11_count_119 rfl ⟨Nat.le_refl _, Nat.le_refl _⟩ ?_
    cases hF
    exact ⟨rfl, rfl, hL⟩
  replace hF := br_F hw1_5 hF
  by_cases hw1_6 : x1 = 6
  · replace hF := br_T hw1_6 hF
    refine x_tableIn (tgt := 120) dX11_count_1 6 hw1_6 ⟨by decide, by decide⟩ rfl (by decide) ?_
    refine x_aload_n (i := 0) (b := 121) dX11_count_120 rfl rfl rfl ?_
    refine x_getL (j := 0) (t := (10, 0, false)) (b := 124) fk_X11_57 dX11_count_121 rfl hL rfl rfl rfl ?_
    refine x_getI (v := gI h 10 0 0) (b := 127) fk_X11_195 dX11_count_124 (by decide) rfl rfl ?_
    refine x_ireturn dX11_count_127 rfl ⟨Nat.le_refl _, Nat.le_refl _⟩ ?_
    cases hF
    exact ⟨rfl, rfl, hL⟩
  replace hF := br_F hw1_6 hF
  by_cases hw1_7 : x1 = 7
  · replace hF := br_T hw1_7 hF
    refine x_tableIn (tgt := 128) dX11_count_1 7 hw1_7 ⟨by decide, by decide⟩ rfl (by decide) ?_
    refine x_aload_n (i := 0) (b := 129) dX11_count_128 rfl rfl rfl ?_
    refine x_getL (j := 0) (t := (5, 0, false)) (b := 132) fk_X11_88 dX11_count_129 rfl hL rfl rfl rfl ?_
    refine x_getI (v := gI h 5 0 4) (b := 135) fk_X11_305 dX11_count_132 (by decide) rfl rfl ?_
    refine x_ireturn dX11_count_135 rfl ⟨Nat.le_refl _, Nat.le_refl _⟩ ?_
    cases hF
    exact ⟨rfl, rfl, hL⟩
  replace hF := br_F hw1_7 hF
  by_cases hw1_8 : x1 = 8
  · replace hF := br_T hw1_8 hF
    refine x_tableIn (tgt := 136) dX11_count_1 8 hw1_8 ⟨by decide, by decide⟩ rfl (by decide) ?_
    refine x_aload_n (i := 0) (b := 137) dX11_count_136 rfl rfl rfl ?_
    refine x_getL (j := 0) (t := (5, 0, false)) (b := 140) fk_X11_88 dX11_count_137 rfl hL rfl rfl rfl ?_
    obtain ⟨v7, h8, hq, hF⟩ := bd_e hF
    refine x_callV (as := []) (rest := []) (b := 143) (c_X5_inForce (d + 3) h _ hL hq) dX11_count_140 cw_X11_356 ⟨_, _, rfl, Nat.le_of_ble_eq_true rfl⟩ rfl rfl (Nat.le_of_ble_eq_true rfl) ⟨Nat.le_refl _, Nat.le_refl _⟩ rfl (fun rv hh hp _ => ?_)
    obtain ⟨rfl, rfl, hL⟩ := hp
    refine x_ireturn dX11_count_143 rfl ⟨Nat.le_refl _, Nat.le_refl _⟩ ?_
    cases hF
    exact ⟨rfl, rfl, hL⟩
  replace hF := br_F hw1_8 hF
  by_cases hw1_9 : x1 = 9
  · replace hF := br_T hw1_9 hF
    refine x_tableIn (tgt := 144) dX11_count_1 9 hw1_9 ⟨by decide, by decide⟩ rfl (by decide) ?_
    refine x_aload_n (i := 0) (b := 145) dX11_count_144 rfl rfl rfl ?_
    refine x_getI (v := gI h 11 0 10) (b := 148) fk_X11_72 dX11_count_145 (by decide) rfl rfl ?_
    refine x_ireturn dX11_count_148 rfl ⟨Nat.le_refl _, Nat.le_refl _⟩ ?_
    cases hF
    exact ⟨rfl, rfl, hL⟩
  replace hF := br_F hw1_9 hF
  by_cases hw1_10 : x1 = 10
  · replace hF := br_T hw1_10 hF
    refine x_tableIn (tgt := 149) dX11_count_1 10 hw1_10 ⟨by decide, by decide⟩ rfl (by decide) ?_
    refine x_aload_n (i := 0) (b := 150) dX11_count_149 rfl rfl rfl ?_
    refine x_getL (j := 0) (t := (2, 0, false)) (b := 153) fk_X11_41 dX11_count_150 rfl hL rfl rfl rfl ?_
    refine x_aload_n (i := 0) (b := 154) dX11_count_153 rfl rfl rfl ?_
    refine x_getL (j := 0) (t := (10, 0, false)) (b := 157) fk_X11_57 dX11_count_154 rfl hL rfl rfl rfl ?_
    obtain ⟨v9, h10, hq, hF⟩ := bd_e hF
    refine x_callV (as := [xr 10 0]) (rest := []) (b := 160) (c_X2_aboard d 0 h _ hL hq) dX11_count_157 cw_X11_288 ⟨_, _, rfl, Nat.le_of_ble_eq_true rfl⟩ rfl rfl (Nat.le_of_ble_eq_true rfl) ⟨Nat.le_refl _, Nat.le_refl _⟩ rfl (fun rv hh hp _ => ?_)
    obtain ⟨rfl, rfl, hL⟩ := hp
    refine x_ireturn dX11_count_160 rfl ⟨Nat.le_refl _, Nat.le_refl _⟩ ?_
    cases hF
    exact ⟨rfl, rfl, hL⟩
  replace hF := br_F hw1_10 hF
  refine x_tableOut (tgt := 161) dX11_count_1 (by omega) (by decide) ?_
  refine x_iconst (n := (-1)) (b := 162) dX11_count_161 (by decide) rfl ?_
  refine x_ireturn dX11_count_162 rfl ⟨Nat.le_refl _, Nat.le_refl _⟩ ?_
  cases hF
  exact ⟨rfl, rfl, hL⟩
set_option maxHeartbeats 4000000 in
set_option maxRecDepth 100000 in
theorem u_X11_count (E : xE) (d : Nat) (r : Int × Hp) : ∀ n : Nat, (∀ (x1 : Int) (h : Hp), Lay h → g_X11_count n 0 [x1] h = some r → X E mX11_count (d + 5) (0, 0) (0, 0) 0 [some (xr 11 0), some (xi x1)] [] h (PoI r)) := by
  intro n
  induction n with
  | zero => exact fun _ _ _ hF => no_e (r := r) hF
  | succ n ih => exact fun x1 h hL hF => t_X11_count_0 E d (g_X11_count n) r  x1 h hL hF
theorem c_X11_count (d : Nat) (x1 : Int) (h : Hp) (r : Int × Hp) (hL : Lay h) (hF : f_X11_count x1 h = some r) : Sp mX11_count (d + 5) (0, 0) [xr 11 0, xi x1] h (PoI r) :=
  sp_of (by decide) rfl (Nat.le_of_ble_eq_true rfl) (ls := [some (xr 11 0), some (xi x1)]) rfl (fun E _ => (u_X11_count E d r FU) x1 h hL hF)
theorem dX11_far_0 : decode cX11_far 0 = .ok (.aload_n 0, 1) := by decide +kernel
theorem dX11_far_1 : decode cX11_far 1 = .ok (.getfield 20, 3) := by decide +kernel
theorem dX11_far_4 : decode cX11_far 4 = .ok (.getfield 122, 3) := by decide +kernel
theorem dX11_far_7 : decode cX11_far 7 = .ok (.iload_n 1, 1) := by decide +kernel
theorem dX11_far_8 : decode cX11_far 8 = .ok (.invokevirtual 185, 3) := by decide +kernel
theorem dX11_far_11 : decode cX11_far 11 = .ok (.ifCond .eq 17, 3) := by decide +kernel
theorem dX11_far_14 : decode cX11_far 14 = .ok (.aload_n 0, 1) := by decide +kernel
theorem dX11_far_15 : decode cX11_far 15 = .ok (.getfield 20, 3) := by decide +kernel
theorem dX11_far_18 : decode cX11_far 18 = .ok (.getfield 122, 3) := by decide +kernel
theorem dX11_far_21 : decode cX11_far 21 = .ok (.iload_n 2, 1) := by decide +kernel
theorem dX11_far_22 : decode cX11_far 22 = .ok (.invokevirtual 185, 3) := by decide +kernel
theorem dX11_far_25 : decode cX11_far 25 = .ok (.ifCond .ne 5, 3) := by decide +kernel
theorem dX11_far_28 : decode cX11_far 28 = .ok (.iconst (-1), 1) := by decide +kernel
theorem dX11_far_29 : decode cX11_far 29 = .ok (.ireturn, 1) := by decide +kernel
theorem dX11_far_30 : decode cX11_far 30 = .ok (.aload_n 0, 1) := by decide +kernel
theorem dX11_far_31 : decode cX11_far 31 = .ok (.getfield 20, 3) := by decide +kernel
theorem dX11_far_34 : decode cX11_far 34 = .ok (.getfield 122, 3) := by decide +kernel
theorem dX11_far_37 : decode cX11_far 37 = .ok (.iload_n 1, 1) := by decide +kernel
theorem dX11_far_38 : decode cX11_far 38 = .ok (.iload_n 2, 1) := by decide +kernel
theorem dX11_far_39 : decode cX11_far 39 = .ok (.invokevirtual 188, 3) := by decide +kernel
theorem dX11_far_42 : decode cX11_far 42 = .ok (.ireturn, 1) := by decide +kernel
noncomputable def b_X11_far_0 (rec : Rk) (x1 x2 : Int) (h : Hp) : Option (Int × Hp) :=
  rf (gR h 11 0 2) 0 fun j1 =>
  bd (f_X9_isCell j1 x1 h) fun v2 h3 =>
  if v2 = 0 then (
    some ((-1), h3)
  ) else (
    rf (gR h3 11 0 2) 0 fun j4 =>
    bd (f_X9_isCell j4 x2 h3) fun v5 h6 =>
    if v5 = 0 then (
      some ((-1), h6)
    ) else (
      rf (gR h6 11 0 2) 0 fun j7 =>
      bd (f_X9_between j7 x1 x2 h6) fun v8 h9 =>
      some (v8, h9)
    )
  )
noncomputable def g_X11_far (n : Nat) : Rk := Nat.rec (motive := fun _ => Rk) (fun _ _ _ => none) (fun _ rec k l h => if k = 0 then b_X11_far_0 rec (l.getD 0 0) (l.getD 1 0) h else none) n
noncomputable def f_X11_far (x1 x2 : Int) (h : Hp) : Option (Int × Hp) := g_X11_far FU 0 [x1, x2] h
set_option maxHeartbeats 4000000 in
set_option maxRecDepth 100000 in
theorem t_X11_far_0 (E : xE) (d : Nat) (rec : Rk) (r : Int × Hp) (x1 x2 : Int) (h : Hp) (hL : Lay h) (hF : b_X11_far_0 rec x1 x2 h = some r) : X E mX11_far (d + 5) (0, 0) (0, 0) 0 [some (xr 11 0), some (xi x1), some (xi x2)] [] h (PoI r) := by
  unfold b_X11_far_0 at hF
  refine x_aload_n (i := 0) (b := 1) dX11_far_0 rfl rfl rfl ?_
  obtain ⟨j1, e_j1, hF⟩ := rf_e hF
  refine x_getR (v := some (0, j1)) (b := 4) fk_X11_20 dX11_far_1 rfl e_j1 rfl ?_
  refine x_getL (j := j1) (t := (9, 0, true)) (b := 7) fk_X11_122 dX11_far_4 rfl hL rfl rfl rfl ?_
  refine x_iload_n (i := 1) (b := 8) dX11_far_7 rfl rfl rfl ?_
  obtain ⟨v2, h3, hq, hF⟩ := bd_e hF
  refine x_callV (as := [xi x1]) (rest := []) (b := 11) (c_X9_isCell (d + 3) j1 x1 h _ hL hq) dX11_far_8 cw_X11_185 ⟨_, _, rfl, Nat.le_of_ble_eq_true rfl⟩ rfl rfl (Nat.le_of_ble_eq_true rfl) ⟨Nat.le_refl _, Nat.le_refl _⟩ rfl (fun rv hh hp _ => ?_)
  obtain ⟨rfl, rfl, hL⟩ := hp
  refine x_if_eq (tgt := 28) (b := 14) dX11_far_11 (by decide) rfl (fun hc => ?_) (fun hc => ?_)
  · replace hF := br_T hc hF
    refine x_iconst (n := (-1)) (b := 29) dX11_far_28 (by decide) rfl ?_
    refine x_ireturn dX11_far_29 rfl ⟨Nat.le_refl _, Nat.le_refl _⟩ ?_
    cases hF
    exact ⟨rfl, rfl, hL⟩
  · replace hF := br_F hc hF
    refine x_aload_n (i := 0) (b := 15) dX11_far_14 rfl rfl rfl ?_
    obtain ⟨j4, e_j4, hF⟩ := rf_e hF
    refine x_getR (v := some (0, j4)) (b := 18) fk_X11_20 dX11_far_15 rfl e_j4 rfl ?_
    refine x_getL (j := j4) (t := (9, 0, true)) (b := 21) fk_X11_122 dX11_far_18 rfl hL rfl rfl rfl ?_
    refine x_iload_n (i := 2) (b := 22) dX11_far_21 rfl rfl rfl ?_
    obtain ⟨v5, h6, hq, hF⟩ := bd_e hF
    refine x_callV (as := [xi x2]) (rest := []) (b := 25) (c_X9_isCell (d + 3) j4 x2 h3 _ hL hq) dX11_far_22 cw_X11_185 ⟨_, _, rfl, Nat.le_of_ble_eq_true rfl⟩ rfl rfl (Nat.le_of_ble_eq_true rfl) ⟨Nat.le_refl _, Nat.le_refl _⟩ rfl (fun rv hh hp _ => ?_)
    obtain ⟨rfl, rfl, hL⟩ := hp
    refine x_if_ne (tgt := 30) (b := 28) dX11_far_25 (by decide) rfl (fun hc => ?_) (fun hc => ?_)
    · replace hF := br_F hc hF
      refine x_aload_n (i := 0) (b := 31) dX11_far_30 rfl rfl rfl ?_
      obtain ⟨j7, e_j7, hF⟩ := rf_e hF
      refine x_getR (v := some (0, j7)) (b := 34) fk_X11_20 dX11_far_31 rfl e_j7 rfl ?_
      refine x_getL (j := j7) (t := (9, 0, true)) (b := 37) fk_X11_122 dX11_far_34 rfl hL rfl rfl rfl ?_
      refine x_iload_n (i := 1) (b := 38) dX11_far_37 rfl rfl rfl ?_
      refine x_iload_n (i := 2) (b := 39) dX11_far_38 rfl rfl rfl ?_
      obtain ⟨v8, h9, hq, hF⟩ := bd_e hF
      refine x_callV (as := [xi x1, xi x2]) (rest := []) (b := 42) (c_X9_between d j7 x1 x2 h6 _ hL hq) dX11_far_39 cw_X11_188 ⟨_, _, rfl, Nat.le_of_ble_eq_true rfl⟩ rfl rfl (Nat.le_of_ble_eq_true rfl) ⟨Nat.le_refl _, Nat.le_refl _⟩ rfl (fun rv hh hp _ => ?_)
      obtain ⟨rfl, rfl, hL⟩ := hp
      refine x_ireturn dX11_far_42 rfl ⟨Nat.le_refl _, Nat.le_refl _⟩ ?_
      cases hF
      exact ⟨rfl, rfl, hL⟩
    · replace hF := br_T hc hF
      refine x_iconst (n := (-1)) (b := 29) dX11_far_28 (by decide) rfl ?_
      refine x_ireturn dX11_far_29 rfl ⟨Nat.le_refl _, Nat.le_refl _⟩ ?_
      cases hF
      exact ⟨rfl, rfl, hL⟩
set_option maxHeartbeats 4000000 in
set_option maxRecDepth 100000 in
theorem u_X11_far (E : xE) (d : Nat) (r : Int × Hp) : ∀ n : Nat, (∀ (x1 x2 : Int) (h : Hp), Lay h → g_X11_far n 0 [x1, x2] h = some r → X E mX11_far (d + 5) (0, 0) (0, 0) 0 [some (xr 11 0), some (xi x1), some (xi x2)] [] h (PoI r)) := by
  intro n
  induction n with
  | zero => exact fun _ _ _ _ hF => no_e (r := r) hF
  | succ n ih => exact fun x1 x2 h hL hF => t_X11_far_0 E d (g_X11_far n) r  x1 x2 h hL hF
theorem c_X11_far (d : Nat) (x1 x2 : Int) (h : Hp) (r : Int × Hp) (hL : Lay h) (hF : f_X11_far x1 x2 h = some r) : Sp mX11_far (d + 5) (0, 0) [xr 11 0, xi x1, xi x2] h (PoI r) :=
  sp_of (by decide) rfl (Nat.le_of_ble_eq_true rfl) (ls := [some (xr 11 0), some (xi x1), some (xi x2)]) rfl (fun E _ => (u_X11_far E d r FU) x1 x2 h hL hF)
theorem dX11_power_0 : decode cX11_power 0 = .ok (.iload_n 2, 1) := by decide +kernel
theorem dX11_power_1 : decode cX11_power 1 = .ok (.ifCond .eq 10, 3) := by decide +kernel
theorem dX11_power_4 : decode cX11_power 4 = .ok (.iload_n 2, 1) := by decide +kernel
theorem dX11_power_5 : decode cX11_power 5 = .ok (.iconst 1, 1) := by decide +kernel
theorem dX11_power_6 : decode cX11_power 6 = .ok (.if_icmp .eq 5, 3) := by decide +kernel
theorem dX11_power_9 : decode cX11_power 9 = .ok (.iconst (-1), 1) := by decide +kernel
theorem dX11_power_10 : decode cX11_power 10 = .ok (.ireturn, 1) := by decide +kernel
theorem dX11_power_11 : decode cX11_power 11 = .ok (.aload_n 0, 1) := by decide +kernel
theorem dX11_power_12 : decode cX11_power 12 = .ok (.getfield 20, 3) := by decide +kernel
theorem dX11_power_15 : decode cX11_power 15 = .ok (.iload_n 1, 1) := by decide +kernel
theorem dX11_power_16 : decode cX11_power 16 = .ok (.invokevirtual 135, 3) := by decide +kernel
theorem dX11_power_19 : decode cX11_power 19 = .ok (.ifCond .eq 25, 3) := by decide +kernel
theorem dX11_power_22 : decode cX11_power 22 = .ok (.aload_n 0, 1) := by decide +kernel
theorem dX11_power_23 : decode cX11_power 23 = .ok (.invokevirtual 198, 3) := by decide +kernel
theorem dX11_power_26 : decode cX11_power 26 = .ok (.ifCond .eq 18, 3) := by decide +kernel
theorem dX11_power_29 : decode cX11_power 29 = .ok (.aload_n 0, 1) := by decide +kernel
theorem dX11_power_30 : decode cX11_power 30 = .ok (.getfield 41, 3) := by decide +kernel
theorem dX11_power_33 : decode cX11_power 33 = .ok (.aload_n 0, 1) := by decide +kernel
theorem dX11_power_34 : decode cX11_power 34 = .ok (.getfield 57, 3) := by decide +kernel
theorem dX11_power_37 : decode cX11_power 37 = .ok (.iload_n 1, 1) := by decide +kernel
theorem dX11_power_38 : decode cX11_power 38 = .ok (.invokevirtual 146, 3) := by decide +kernel
theorem dX11_power_41 : decode cX11_power 41 = .ok (.ifCond .ne 5, 3) := by decide +kernel
theorem dX11_power_44 : decode cX11_power 44 = .ok (.iconst (-1), 1) := by decide +kernel
theorem dX11_power_45 : decode cX11_power 45 = .ok (.ireturn, 1) := by decide +kernel
theorem dX11_power_46 : decode cX11_power 46 = .ok (.aload_n 0, 1) := by decide +kernel
theorem dX11_power_47 : decode cX11_power 47 = .ok (.getfield 41, 3) := by decide +kernel
theorem dX11_power_50 : decode cX11_power 50 = .ok (.aload_n 0, 1) := by decide +kernel
theorem dX11_power_51 : decode cX11_power 51 = .ok (.getfield 57, 3) := by decide +kernel
theorem dX11_power_54 : decode cX11_power 54 = .ok (.invokevirtual 288, 3) := by decide +kernel
theorem dX11_power_57 : decode cX11_power 57 = .ok (.istore_n 3, 1) := by decide +kernel
theorem dX11_power_58 : decode cX11_power 58 = .ok (.iload_n 3, 1) := by decide +kernel
theorem dX11_power_59 : decode cX11_power 59 = .ok (.ifCond .lt 19, 3) := by decide +kernel
theorem dX11_power_62 : decode cX11_power 62 = .ok (.iload_n 3, 1) := by decide +kernel
theorem dX11_power_63 : decode cX11_power 63 = .ok (.getstatic 292, 3) := by decide +kernel
theorem dX11_power_66 : decode cX11_power 66 = .ok (.arraylength, 1) := by decide +kernel
theorem dX11_power_67 : decode cX11_power 67 = .ok (.if_icmp .ge 11, 3) := by decide +kernel
theorem dX11_power_70 : decode cX11_power 70 = .ok (.getstatic 292, 3) := by decide +kernel
theorem dX11_power_73 : decode cX11_power 73 = .ok (.iload_n 3, 1) := by decide +kernel
theorem dX11_power_74 : decode cX11_power 74 = .ok (.iaload, 1) := by decide +kernel
theorem dX11_power_75 : decode cX11_power 75 = .ok (.goto 4, 3) := by decide +kernel
theorem dX11_power_78 : decode cX11_power 78 = .ok (.iconst 1, 1) := by decide +kernel
theorem dX11_power_79 : decode cX11_power 79 = .ok (.istore 4, 2) := by decide +kernel
theorem dX11_power_81 : decode cX11_power 81 = .ok (.aload_n 0, 1) := by decide +kernel
theorem dX11_power_82 : decode cX11_power 82 = .ok (.getfield 41, 3) := by decide +kernel
theorem dX11_power_85 : decode cX11_power 85 = .ok (.aload_n 0, 1) := by decide +kernel
theorem dX11_power_86 : decode cX11_power 86 = .ok (.getfield 57, 3) := by decide +kernel
theorem dX11_power_89 : decode cX11_power 89 = .ok (.iload_n 1, 1) := by decide +kernel
theorem dX11_power_90 : decode cX11_power 90 = .ok (.invokevirtual 295, 3) := by decide +kernel
theorem dX11_power_93 : decode cX11_power 93 = .ok (.iload 4, 2) := by decide +kernel
theorem dX11_power_95 : decode cX11_power 95 = .ok (.iload_n 2, 1) := by decide +kernel
theorem dX11_power_96 : decode cX11_power 96 = .ok (.invokestatic 298, 3) := by decide +kernel
theorem dX11_power_99 : decode cX11_power 99 = .ok (.ireturn, 1) := by decide +kernel
noncomputable def b_X11_power_0 (rec : Rk) (x1 x2 : Int) (h : Hp) : Option (Int × Hp) :=
  if x2 = 0 then (
    rec 1 [x1, x2] h
  ) else (
    if x2 = 1 then (
      rec 1 [x1, x2] h
    ) else (
      some ((-1), h)
    )
  )
noncomputable def b_X11_power_1 (rec : Rk) (x1 x2 : Int) (h : Hp) : Option (Int × Hp) :=
  rf (gR h 11 0 2) 0 fun j1 =>
  bd (f_X0_isMouth j1 x1 h) fun v2 h3 =>
  if v2 = 0 then (
    some ((-1), h3)
  ) else (
    bd (f_X11_mealIsNext h3) fun v4 h5 =>
    if v4 = 0 then (
      some ((-1), h5)
    ) else (
      bd (f_X2_isAboard 0 x1 h5) fun v6 h7 =>
      if v6 = 0 then (
        some ((-1), h7)
      ) else (
        bd (f_X2_aboard 0 h7) fun v8 h9 =>
        if v8 < 0 then (
          rec 2 [x1, x2] h9
        ) else (
          if 10 ≤ v8 then (
            rec 2 [x1, x2] h9
          ) else (
            ck (0 ≤ v8 ∧ v8 < 10) <|
            rec 3 [x1, x2, xOrd.getD (v8).toNat 0] h9
          )
        )
      )
    )
  )
noncomputable def b_X11_power_2 (rec : Rk) (x1 x2 : Int) (h : Hp) : Option (Int × Hp) :=
  rec 3 [x1, x2, 1] h
noncomputable def b_X11_power_3 (rec : Rk) (x1 x2 y0 : Int) (h : Hp) : Option (Int × Hp) :=
  bd (f_X2_ordersDecidedBy 0 x1 h) fun v1 h2 =>
  bd (f_X11_part v1 y0 x2 h2) fun v3 h4 =>
  some (v3, h4)
noncomputable def g_X11_power (n : Nat) : Rk := Nat.rec (motive := fun _ => Rk) (fun _ _ _ => none) (fun _ rec k l h => if k = 0 then b_X11_power_0 rec (l.getD 0 0) (l.getD 1 0) h else if k = 1 then b_X11_power_1 rec (l.getD 0 0) (l.getD 1 0) h else if k = 2 then b_X11_power_2 rec (l.getD 0 0) (l.getD 1 0) h else if k = 3 then b_X11_power_3 rec (l.getD 0 0) (l.getD 1 0) (l.getD 2 0) h else none) n
noncomputable def f_X11_power (x1 x2 : Int) (h : Hp) : Option (Int × Hp) := g_X11_power FU 0 [x1, x2] h
set_option maxHeartbeats 4000000 in
set_option maxRecDepth 100000 in
theorem t_X11_power_0 (E : xE) (d : Nat) (rec : Rk) (r : Int × Hp) (hr_11 : ∀ (x1 x2 : Int) (h : Hp), Lay h → rec 1 [x1, x2] h = some r → X E mX11_power (d + 5) (0, 0) (0, 0) 11 [some (xr 11 0), some (xi x1), some (xi x2), none, none] [] h (PoI r)) (x1 x2 : Int) (h : Hp) (hL : Lay h) (hF : b_X11_power_0 rec x1 x2 h = some r) : X E mX11_power (d + 5) (0, 0) (0, 0) 0 [some (xr 11 0), some (xi x1), some (xi x2), none, none] [] h (PoI r) := by
  unfold b_X11_power_0 at hF
  refine x_iload_n (i := 2) (b := 1) dX11_power_0 rfl rfl rfl ?_
  refine x_if_eq (tgt := 11) (b := 4) dX11_power_1 (by decide) rfl (fun hc => ?_) (fun hc => ?_)
  · replace hF := br_T hc hF
    exact x_dp (ls2 := [some (xr 11 0), some (xi x1), some (xi x2), none, none]) ⟨rfl, rfl, rfl, trivial⟩ (hr_11 x1 x2 h hL hF)
  · replace hF := br_F hc hF
    refine x_iload_n (i := 2) (b := 5) dX11_power_4 rfl rfl rfl ?_
    refine x_iconst (n := 1) (b := 6) dX11_power_5 (by decide) rfl ?_
    refine x_icmp_eq (tgt := 11) (b := 9) dX11_power_6 (by decide) rfl (fun hc => ?_) (fun hc => ?_)
    · replace hF := br_T hc hF
      exact x_dp (ls2 := [some (xr 11 0), some (xi x1), some (xi x2), none, none]) ⟨rfl, rfl, rfl, trivial⟩ (hr_11 x1 x2 h hL hF)
    · replace hF := br_F hc hF
      refine x_iconst (n := (-1)) (b := 10) dX11_power_9 (by decide) rfl ?_
      refine x_ireturn dX11_power_10 rfl ⟨Nat.le_refl _, Nat.le_refl _⟩ ?_
      cases hF
      exact ⟨rfl, rfl, hL⟩
set_option maxHeartbeats 4000000 in
set_option maxRecDepth 100000 in
theorem t_X11_power_1 (E : xE) (d : Nat) (rec : Rk) (r : Int × Hp) (hr_78 : ∀ (x1 x2 : Int) (h : Hp), Lay h → rec 2 [x1, x2] h = some r → X E mX11_power (d + 5) (0, 0) (0, 0) 78 [some (xr 11 0), some (xi x1), some (xi x2), none, none] [] h (PoI r)) (hr_79 : ∀ (x1 x2 y0 : Int) (h : Hp), Lay h → rec 3 [x1, x2, y0] h = some r → X E mX11_power (d + 5) (0, 0) (0, 0) 79 [some (xr 11 0), some (xi x1), some (xi x2), none, none] [xi y0] h (PoI r)) (x1 x2 : Int) (h : Hp) (hL : Lay h) (hF : b_X11_power_1 rec x1 x2 h = some r) : X E mX11_power (d + 5) (0, 0) (0, 0) 11 [some (xr 11 0), some (xi x1), some (xi x2), none, none] [] h (PoI r) := by
  unfold b_X11_power_1 at hF
  refine x_aload_n (i := 0) (b := 12) dX11_power_11 rfl rfl rfl ?_
  obtain ⟨j1, e_j1, hF⟩ := rf_e hF
  refine x_getR (v := some (0, j1)) (b := 15) fk_X11_20 dX11_power_12 rfl e_j1 rfl ?_
  refine x_iload_n (i := 1) (b := 16) dX11_power_15 rfl rfl rfl ?_
  obtain ⟨v2, h3, hq, hF⟩ := bd_e hF
  refine x_callV (as := [xi x1]) (rest := []) (b := 19) (c_X0_isMouth (d + 2) j1 x1 h _ hL hq) dX11_power_16 cw_X11_135 ⟨_, _, rfl, Nat.le_of_ble_eq_true rfl⟩ rfl rfl (Nat.le_of_ble_eq_true rfl) ⟨Nat.le_refl _, Nat.le_refl _⟩ rfl (fun rv hh hp _ => ?_)
  obtain ⟨rfl, rfl, hL⟩ := hp
  refine x_if_eq (tgt := 44) (b := 22) dX11_power_19 (by decide) rfl (fun hc => ?_) (fun hc => ?_)
  · replace hF := br_T hc hF
    refine x_iconst (n := (-1)) (b := 45) dX11_power_44 (by decide) rfl ?_
    refine x_ireturn dX11_power_45 rfl ⟨Nat.le_refl _, Nat.le_refl _⟩ ?_
    cases hF
    exact ⟨rfl, rfl, hL⟩
  · replace hF := br_F hc hF
    refine x_aload_n (i := 0) (b := 23) dX11_power_22 rfl rfl rfl ?_
    obtain ⟨v4, h5, hq, hF⟩ := bd_e hF
    refine x_callV (as := []) (rest := []) (b := 26) (c_X11_mealIsNext (d + 3) h3 _ hL hq) dX11_power_23 cw_X11_198 ⟨_, _, rfl, Nat.le_of_ble_eq_true rfl⟩ rfl rfl (Nat.le_of_ble_eq_true rfl) ⟨Nat.le_refl _, Nat.le_refl _⟩ rfl (fun rv hh hp _ => ?_)
    obtain ⟨rfl, rfl, hL⟩ := hp
    refine x_if_eq (tgt := 44) (b := 29) dX11_power_26 (by decide) rfl (fun hc => ?_) (fun hc => ?_)
    · replace hF := br_T hc hF
      refine x_iconst (n := (-1)) (b := 45) dX11_power_44 (by decide) rfl ?_
      refine x_ireturn dX11_power_45 rfl ⟨Nat.le_refl _, Nat.le_refl _⟩ ?_
      cases hF
      exact ⟨rfl, rfl, hL⟩
    · replace hF := br_F hc hF
      refine x_aload_n (i := 0) (b := 30) dX11_power_29 rfl rfl rfl ?_
      refine x_getL (j := 0) (t := (2, 0, false)) (b := 33) fk_X11_41 dX11_power_30 rfl hL rfl rfl rfl ?_
      refine x_aload_n (i := 0) (b := 34) dX11_power_33 rfl rfl rfl ?_
      refine x_getL (j := 0) (t := (10, 0, false)) (b := 37) fk_X11_57 dX11_power_34 rfl hL rfl rfl rfl ?_
      refine x_iload_n (i := 1) (b := 38) dX11_power_37 rfl rfl rfl ?_
      obtain ⟨v6, h7, hq, hF⟩ := bd_e hF
      refine x_callV (as := [xr 10 0, xi x1]) (rest := []) (b := 41) (c_X2_isAboard (d + 1) 0 x1 h5 _ hL hq) dX11_power_38 cw_X11_146 ⟨_, _, rfl, Nat.le_of_ble_eq_true rfl⟩ rfl rfl (Nat.le_of_ble_eq_true rfl) ⟨Nat.le_refl _, Nat.le_refl _⟩ rfl (fun rv hh hp _ => ?_)
      obtain ⟨rfl, rfl, hL⟩ := hp
      refine x_if_ne (tgt := 46) (b := 44) dX11_power_41 (by decide) rfl (fun hc => ?_) (fun hc => ?_)
      · replace hF := br_F hc hF
        refine x_aload_n (i := 0) (b := 47) dX11_power_46 rfl rfl rfl ?_
        refine x_getL (j := 0) (t := (2, 0, false)) (b := 50) fk_X11_41 dX11_power_47 rfl hL rfl rfl rfl ?_
        refine x_aload_n (i := 0) (b := 51) dX11_power_50 rfl rfl rfl ?_
        refine x_getL (j := 0) (t := (10, 0, false)) (b := 54) fk_X11_57 dX11_power_51 rfl hL rfl rfl rfl ?_
        obtain ⟨v8, h9, hq, hF⟩ := bd_e hF
        refine x_callV (as := [xr 10 0]) (rest := []) (b := 57) (c_X2_aboard d 0 h7 _ hL hq) dX11_power_54 cw_X11_288 ⟨_, _, rfl, Nat.le_of_ble_eq_true rfl⟩ rfl rfl (Nat.le_of_ble_eq_true rfl) ⟨Nat.le_refl _, Nat.le_refl _⟩ rfl (fun rv hh hp _ => ?_)
        obtain ⟨rfl, rfl, hL⟩ := hp
        refine x_istore_n (i := 3) (b := 58) (ls2 := [some (xr 11 0), some (xi x1), some (xi x2), some (xi v8), none]) dX11_power_57 rfl (Nat.le_of_ble_eq_true rfl) rfl rfl ?_
        refine x_iload_n (i := 3) (b := 59) dX11_power_58 rfl rfl rfl ?_
        refine x_if_lt (tgt := 78) (b := 62) dX11_power_59 (by decide) rfl (fun hc => ?_) (fun hc => ?_)
        · replace hF := br_T hc hF
          exact x_dp (ls2 := [some (xr 11 0), some (xi x1), some (xi x2), none, none]) ⟨rfl, rfl, rfl, trivial⟩ (hr_78 x1 x2 h9 hL hF)
        · replace hF := br_F hc hF
          refine x_iload_n (i := 3) (b := 63) dX11_power_62 rfl rfl rfl ?_
          refine x_gsOrd (b := 66) rfl dX11_power_63 kw_1279 rfl ?_
          refine x_alenO (v := 10) (b := 67) dX11_power_66 rfl rfl ?_
          refine x_icmp_ge (tgt := 78) (b := 70) dX11_power_67 (by decide) rfl (fun hc => ?_) (fun hc => ?_)
          · replace hF := br_T hc hF
            exact x_dp (ls2 := [some (xr 11 0), some (xi x1), some (xi x2), none, none]) ⟨rfl, rfl, rfl, trivial⟩ (hr_78 x1 x2 h9 hL hF)
          · replace hF := br_F hc hF
            refine x_gsOrd (b := 73) rfl dX11_power_70 kw_1279 rfl ?_
            refine x_iload_n (i := 3) (b := 74) dX11_power_73 rfl rfl rfl ?_
            obtain ⟨hs, hF⟩ := ck_e hF
            refine x_ialdO (v := xOrd.getD (v8).toNat 0) (b := 75) dX11_power_74 hs rfl rfl ?_
            refine x_goto (tgt := 79) dX11_power_75 (by decide) ?_
            exact x_dp (ls2 := [some (xr 11 0), some (xi x1), some (xi x2), none, none]) ⟨rfl, rfl, rfl, trivial⟩ (hr_79 x1 x2 (xOrd.getD (v8).toNat 0) h9 hL hF)
      · replace hF := br_T hc hF
        refine x_iconst (n := (-1)) (b := 45) dX11_power_44 (by decide) rfl ?_
        refine x_ireturn dX11_power_45 rfl ⟨Nat.le_refl _, Nat.le_refl _⟩ ?_
        cases hF
        exact ⟨rfl, rfl, hL⟩
set_option maxHeartbeats 4000000 in
set_option maxRecDepth 100000 in
theorem t_X11_power_2 (E : xE) (d : Nat) (rec : Rk) (r : Int × Hp) (hr_79 : ∀ (x1 x2 y0 : Int) (h : Hp), Lay h → rec 3 [x1, x2, y0] h = some r → X E mX11_power (d + 5) (0, 0) (0, 0) 79 [some (xr 11 0), some (xi x1), some (xi x2), none, none] [xi y0] h (PoI r)) (x1 x2 : Int) (h : Hp) (hL : Lay h) (hF : b_X11_power_2 rec x1 x2 h = some r) : X E mX11_power (d + 5) (0, 0) (0, 0) 78 [some (xr 11 0), some (xi x1), some (xi x2), none, none] [] h (PoI r) := by
  unfold b_X11_power_2 at hF
  refine x_iconst (n := 1) (b := 79) dX11_power_78 (by decide) rfl ?_
  exact x_dp (ls2 := [some (xr 11 0), some (xi x1), some (xi x2), none, none]) ⟨rfl, rfl, rfl, trivial⟩ (hr_79 x1 x2 1 h hL hF)
set_option maxHeartbeats 4000000 in
set_option maxRecDepth 100000 in
theorem t_X11_power_3 (E : xE) (d : Nat) (rec : Rk) (r : Int × Hp) (x1 x2 y0 : Int) (h : Hp) (hL : Lay h) (hF : b_X11_power_3 rec x1 x2 y0 h = some r) : X E mX11_power (d + 5) (0, 0) (0, 0) 79 [some (xr 11 0), some (xi x1), some (xi x2), none, none] [xi y0] h (PoI r) := by
  unfold b_X11_power_3 at hF
  refine x_istore (i := 4) (b := 81) (ls2 := [some (xr 11 0), some (xi x1), some (xi x2), none, some (xi y0)]) dX11_power_79 (Nat.le_of_ble_eq_true rfl) rfl rfl ?_
  refine x_aload_n (i := 0) (b := 82) dX11_power_81 rfl rfl rfl ?_
  refine x_getL (j := 0) (t := (2, 0, false)) (b := 85) fk_X11_41 dX11_power_82 rfl hL rfl rfl rfl ?_
  refine x_aload_n (i := 0) (b := 86) dX11_power_85 rfl rfl rfl ?_
  refine x_getL (j := 0) (t := (10, 0, false)) (b := 89) fk_X11_57 dX11_power_86 rfl hL rfl rfl rfl ?_
  refine x_iload_n (i := 1) (b := 90) dX11_power_89 rfl rfl rfl ?_
  obtain ⟨v1, h2, hq, hF⟩ := bd_e hF
  refine x_callV (as := [xr 10 0, xi x1]) (rest := []) (b := 93) (c_X2_ordersDecidedBy d 0 x1 h _ hL hq) dX11_power_90 cw_X11_295 ⟨_, _, rfl, Nat.le_of_ble_eq_true rfl⟩ rfl rfl (Nat.le_of_ble_eq_true rfl) ⟨Nat.le_refl _, Nat.le_refl _⟩ rfl (fun rv hh hp _ => ?_)
  obtain ⟨rfl, rfl, hL⟩ := hp
  refine x_iload (i := 4) (b := 95) dX11_power_93 rfl rfl ?_
  refine x_iload_n (i := 2) (b := 96) dX11_power_95 rfl rfl rfl ?_
  obtain ⟨v3, h4, hq, hF⟩ := bd_e hF
  refine x_callS (as := [xi v1, xi y0, xi x2]) (rest := []) (b := 99) (c_X11_part (d + 3) v1 y0 x2 h2 _ hL hq) dX11_power_96 cw_X11_298 rfl rfl (Nat.le_of_ble_eq_true rfl) ⟨Nat.le_refl _, Nat.le_refl _⟩ rfl (fun rv hh hp _ => ?_)
  obtain ⟨rfl, rfl, hL⟩ := hp
  refine x_ireturn dX11_power_99 rfl ⟨Nat.le_refl _, Nat.le_refl _⟩ ?_
  cases hF
  exact ⟨rfl, rfl, hL⟩
set_option maxHeartbeats 4000000 in
set_option maxRecDepth 100000 in
theorem u_X11_power (E : xE) (d : Nat) (r : Int × Hp) : ∀ n : Nat, (∀ (x1 x2 : Int) (h : Hp), Lay h → g_X11_power n 0 [x1, x2] h = some r → X E mX11_power (d + 5) (0, 0) (0, 0) 0 [some (xr 11 0), some (xi x1), some (xi x2), none, none] [] h (PoI r)) ∧ (∀ (x1 x2 : Int) (h : Hp), Lay h → g_X11_power n 1 [x1, x2] h = some r → X E mX11_power (d + 5) (0, 0) (0, 0) 11 [some (xr 11 0), some (xi x1), some (xi x2), none, none] [] h (PoI r)) ∧ (∀ (x1 x2 : Int) (h : Hp), Lay h → g_X11_power n 2 [x1, x2] h = some r → X E mX11_power (d + 5) (0, 0) (0, 0) 78 [some (xr 11 0), some (xi x1), some (xi x2), none, none] [] h (PoI r)) ∧ (∀ (x1 x2 y0 : Int) (h : Hp), Lay h → g_X11_power n 3 [x1, x2, y0] h = some r → X E mX11_power (d + 5) (0, 0) (0, 0) 79 [some (xr 11 0), some (xi x1), some (xi x2), none, none] [xi y0] h (PoI r)) := by
  intro n
  induction n with
  | zero => exact ⟨fun _ _ _ _ hF => no_e (r := r) hF, fun _ _ _ _ hF => no_e (r := r) hF, fun _ _ _ _ hF => no_e (r := r) hF, fun _ _ _ _ _ hF => no_e (r := r) hF⟩
  | succ n ih => exact ⟨fun x1 x2 h hL hF => t_X11_power_0 E d (g_X11_power n) r ih.2.1 x1 x2 h hL hF, fun x1 x2 h hL hF => t_X11_power_1 E d (g_X11_power n) r ih.2.2.1 ih.2.2.2 x1 x2 h hL hF, fun x1 x2 h hL hF => t_X11_power_2 E d (g_X11_power n) r ih.2.2.2 x1 x2 h hL hF, fun x1 x2 y0 h hL hF => t_X11_power_3 E d (g_X11_power n) r  x1 x2 y0 h hL hF⟩
theorem c_X11_power (d : Nat) (x1 x2 : Int) (h : Hp) (r : Int × Hp) (hL : Lay h) (hF : f_X11_power x1 x2 h = some r) : Sp mX11_power (d + 5) (0, 0) [xr 11 0, xi x1, xi x2] h (PoI r) :=
  sp_of (by decide) rfl (Nat.le_of_ble_eq_true rfl) (ls := [some (xr 11 0), some (xi x1), some (xi x2), none, none]) rfl (fun E _ => (u_X11_power E d r FU).1 x1 x2 h hL hF)
theorem dX11_votes_0 : decode cX11_votes 0 = .ok (.iload_n 1, 1) := by decide +kernel
theorem dX11_votes_1 : decode cX11_votes 1 = .ok (.invokestatic 213, 3) := by decide +kernel
theorem dX11_votes_4 : decode cX11_votes 4 = .ok (.ifCond .eq 10, 3) := by decide +kernel
theorem dX11_votes_7 : decode cX11_votes 7 = .ok (.aload_n 0, 1) := by decide +kernel
theorem dX11_votes_8 : decode cX11_votes 8 = .ok (.invokevirtual 198, 3) := by decide +kernel
theorem dX11_votes_11 : decode cX11_votes 11 = .ok (.ifCond .ne 5, 3) := by decide +kernel
theorem dX11_votes_14 : decode cX11_votes 14 = .ok (.iconst (-1), 1) := by decide +kernel
theorem dX11_votes_15 : decode cX11_votes 15 = .ok (.ireturn, 1) := by decide +kernel
theorem dX11_votes_16 : decode cX11_votes 16 = .ok (.aload_n 0, 1) := by decide +kernel
theorem dX11_votes_17 : decode cX11_votes 17 = .ok (.getfield 41, 3) := by decide +kernel
theorem dX11_votes_20 : decode cX11_votes 20 = .ok (.aload_n 0, 1) := by decide +kernel
theorem dX11_votes_21 : decode cX11_votes 21 = .ok (.getfield 57, 3) := by decide +kernel
theorem dX11_votes_24 : decode cX11_votes 24 = .ok (.aload_n 0, 1) := by decide +kernel
theorem dX11_votes_25 : decode cX11_votes 25 = .ok (.getfield 57, 3) := by decide +kernel
theorem dX11_votes_28 : decode cX11_votes 28 = .ok (.getfield 161, 3) := by decide +kernel
theorem dX11_votes_31 : decode cX11_votes 31 = .ok (.invokevirtual 202, 3) := by decide +kernel
theorem dX11_votes_34 : decode cX11_votes 34 = .ok (.aload_n 0, 1) := by decide +kernel
theorem dX11_votes_35 : decode cX11_votes 35 = .ok (.getfield 41, 3) := by decide +kernel
theorem dX11_votes_38 : decode cX11_votes 38 = .ok (.aload_n 0, 1) := by decide +kernel
theorem dX11_votes_39 : decode cX11_votes 39 = .ok (.getfield 57, 3) := by decide +kernel
theorem dX11_votes_42 : decode cX11_votes 42 = .ok (.invokevirtual 227, 3) := by decide +kernel
theorem dX11_votes_45 : decode cX11_votes 45 = .ok (.aload_n 0, 1) := by decide +kernel
theorem dX11_votes_46 : decode cX11_votes 46 = .ok (.getfield 41, 3) := by decide +kernel
theorem dX11_votes_49 : decode cX11_votes 49 = .ok (.getfield 231, 3) := by decide +kernel
theorem dX11_votes_52 : decode cX11_votes 52 = .ok (.iload_n 1, 1) := by decide +kernel
theorem dX11_votes_53 : decode cX11_votes 53 = .ok (.iaload, 1) := by decide +kernel
theorem dX11_votes_54 : decode cX11_votes 54 = .ok (.ireturn, 1) := by decide +kernel
noncomputable def b_X11_votes_0 (rec : Rk) (x1 : Int) (h : Hp) : Option (Int × Hp) :=
  bd (f_X11_isCourse x1 h) fun v1 h2 =>
  if v1 = 0 then (
    some ((-1), h2)
  ) else (
    bd (f_X11_mealIsNext h2) fun v3 h4 =>
    if v3 = 0 then (
      some ((-1), h4)
    ) else (
      bd (f_X2_serve 0 (gI h4 10 0 4) h4) fun v5 h6 =>
      bd (f_X2_poll 0 h6) fun v7 h8 =>
      ck (0 ≤ x1 ∧ x1 < 4) <|
      some (gI h8 31 0 x1, h8)
    )
  )
noncomputable def g_X11_votes (n : Nat) : Rk := Nat.rec (motive := fun _ => Rk) (fun _ _ _ => none) (fun _ rec k l h => if k = 0 then b_X11_votes_0 rec (l.getD 0 0) h else none) n
noncomputable def f_X11_votes (x1 : Int) (h : Hp) : Option (Int × Hp) := g_X11_votes FU 0 [x1] h
set_option maxHeartbeats 4000000 in
set_option maxRecDepth 100000 in
theorem t_X11_votes_0 (E : xE) (d : Nat) (rec : Rk) (r : Int × Hp) (x1 : Int) (h : Hp) (hL : Lay h) (hF : b_X11_votes_0 rec x1 h = some r) : X E mX11_votes (d + 6) (0, 0) (0, 0) 0 [some (xr 11 0), some (xi x1)] [] h (PoI r) := by
  unfold b_X11_votes_0 at hF
  refine x_iload_n (i := 1) (b := 1) dX11_votes_0 rfl rfl rfl ?_
  obtain ⟨v1, h2, hq, hF⟩ := bd_e hF
  refine x_callS (as := [xi x1]) (rest := []) (b := 4) (c_X11_isCourse (d + 4) x1 h _ hL hq) dX11_votes_1 cw_X11_213 rfl rfl (Nat.le_of_ble_eq_true rfl) ⟨Nat.le_refl _, Nat.le_refl _⟩ rfl (fun rv hh hp _ => ?_)
  obtain ⟨rfl, rfl, hL⟩ := hp
  refine x_if_eq (tgt := 14) (b := 7) dX11_votes_4 (by decide) rfl (fun hc => ?_) (fun hc => ?_)
  · replace hF := br_T hc hF
    refine x_iconst (n := (-1)) (b := 15) dX11_votes_14 (by decide) rfl ?_
    refine x_ireturn dX11_votes_15 rfl ⟨Nat.le_refl _, Nat.le_refl _⟩ ?_
    cases hF
    exact ⟨rfl, rfl, hL⟩
  · replace hF := br_F hc hF
    refine x_aload_n (i := 0) (b := 8) dX11_votes_7 rfl rfl rfl ?_
    obtain ⟨v3, h4, hq, hF⟩ := bd_e hF
    refine x_callV (as := []) (rest := []) (b := 11) (c_X11_mealIsNext (d + 4) h2 _ hL hq) dX11_votes_8 cw_X11_198 ⟨_, _, rfl, Nat.le_of_ble_eq_true rfl⟩ rfl rfl (Nat.le_of_ble_eq_true rfl) ⟨Nat.le_refl _, Nat.le_refl _⟩ rfl (fun rv hh hp _ => ?_)
    obtain ⟨rfl, rfl, hL⟩ := hp
    refine x_if_ne (tgt := 16) (b := 14) dX11_votes_11 (by decide) rfl (fun hc => ?_) (fun hc => ?_)
    · replace hF := br_F hc hF
      refine x_aload_n (i := 0) (b := 17) dX11_votes_16 rfl rfl rfl ?_
      refine x_getL (j := 0) (t := (2, 0, false)) (b := 20) fk_X11_41 dX11_votes_17 rfl hL rfl rfl rfl ?_
      refine x_aload_n (i := 0) (b := 21) dX11_votes_20 rfl rfl rfl ?_
      refine x_getL (j := 0) (t := (10, 0, false)) (b := 24) fk_X11_57 dX11_votes_21 rfl hL rfl rfl rfl ?_
      refine x_aload_n (i := 0) (b := 25) dX11_votes_24 rfl rfl rfl ?_
      refine x_getL (j := 0) (t := (10, 0, false)) (b := 28) fk_X11_57 dX11_votes_25 rfl hL rfl rfl rfl ?_
      refine x_getI (v := gI h4 10 0 4) (b := 31) fk_X11_161 dX11_votes_28 (by decide) rfl rfl ?_
      obtain ⟨v5, h6, hq, hF⟩ := bd_e hF
      refine x_callV (as := [xr 10 0, xi (gI h4 10 0 4)]) (rest := []) (b := 34) (c_X2_serve (d + 1) 0 (gI h4 10 0 4) h4 _ hL hq) dX11_votes_31 cw_X11_202 ⟨_, _, rfl, Nat.le_of_ble_eq_true rfl⟩ rfl rfl (Nat.le_of_ble_eq_true rfl) ⟨Nat.le_refl _, Nat.le_refl _⟩ rfl (fun rv hh hp _ => ?_)
      obtain ⟨rfl, rfl, hL⟩ := hp
      refine x_aload_n (i := 0) (b := 35) dX11_votes_34 rfl rfl rfl ?_
      refine x_getL (j := 0) (t := (2, 0, false)) (b := 38) fk_X11_41 dX11_votes_35 rfl hL rfl rfl rfl ?_
      refine x_aload_n (i := 0) (b := 39) dX11_votes_38 rfl rfl rfl ?_
      refine x_getL (j := 0) (t := (10, 0, false)) (b := 42) fk_X11_57 dX11_votes_39 rfl hL rfl rfl rfl ?_
      obtain ⟨v7, h8, hq, hF⟩ := bd_e hF
      refine x_callV (as := [xr 10 0]) (rest := []) (b := 45) (c_X2_poll d 0 h6 _ hL hq) dX11_votes_42 cw_X11_227 ⟨_, _, rfl, Nat.le_of_ble_eq_true rfl⟩ rfl rfl (Nat.le_of_ble_eq_true rfl) ⟨Nat.le_refl _, Nat.le_refl _⟩ rfl (fun rv hh hp _ => ?_)
      obtain ⟨rfl, rfl, hL⟩ := hp
      refine x_aload_n (i := 0) (b := 46) dX11_votes_45 rfl rfl rfl ?_
      refine x_getL (j := 0) (t := (2, 0, false)) (b := 49) fk_X11_41 dX11_votes_46 rfl hL rfl rfl rfl ?_
      refine x_getL (j := 0) (t := (31, 0, true)) (b := 52) fk_X11_231 dX11_votes_49 rfl hL rfl rfl rfl ?_
      refine x_iload_n (i := 1) (b := 53) dX11_votes_52 rfl rfl rfl ?_
      obtain ⟨hs, hF⟩ := ck_e hF
      refine x_iald (v := gI h8 31 0 x1) (b := 54) ak_31 dX11_votes_53 hs rfl rfl ?_
      refine x_ireturn dX11_votes_54 rfl ⟨Nat.le_refl _, Nat.le_refl _⟩ ?_
      cases hF
      exact ⟨rfl, rfl, hL⟩
    · replace hF := br_T hc hF
      refine x_iconst (n := (-1)) (b := 15) dX11_votes_14 (by decide) rfl ?_
      refine x_ireturn dX11_votes_15 rfl ⟨Nat.le_refl _, Nat.le_refl _⟩ ?_
      cases hF
      exact ⟨rfl, rfl, hL⟩
set_option maxHeartbeats 4000000 in
set_option maxRecDepth 100000 in
theorem u_X11_votes (E : xE) (d : Nat) (r : Int × Hp) : ∀ n : Nat, (∀ (x1 : Int) (h : Hp), Lay h → g_X11_votes n 0 [x1] h = some r → X E mX11_votes (d + 6) (0, 0) (0, 0) 0 [some (xr 11 0), some (xi x1)] [] h (PoI r)) := by
  intro n
  induction n with
  | zero => exact fun _ _ _ hF => no_e (r := r) hF
  | succ n ih => exact fun x1 h hL hF => t_X11_votes_0 E d (g_X11_votes n) r  x1 h hL hF
theorem c_X11_votes (d : Nat) (x1 : Int) (h : Hp) (r : Int × Hp) (hL : Lay h) (hF : f_X11_votes x1 h = some r) : Sp mX11_votes (d + 6) (0, 0) [xr 11 0, xi x1] h (PoI r) :=
  sp_of (by decide) rfl (Nat.le_of_ble_eq_true rfl) (ls := [some (xr 11 0), some (xi x1)]) rfl (fun E _ => (u_X11_votes E d r FU) x1 h hL hF)
theorem dX12_passes_0 : decode cX12_passes 0 = .ok (.aload_n 0, 1) := by decide +kernel
theorem dX12_passes_1 : decode cX12_passes 1 = .ok (.getfield 87, 3) := by decide +kernel
theorem dX12_passes_4 : decode cX12_passes 4 = .ok (.iload_n 1, 1) := by decide +kernel
theorem dX12_passes_5 : decode cX12_passes 5 = .ok (.iaload, 1) := by decide +kernel
theorem dX12_passes_6 : decode cX12_passes 6 = .ok (.istore_n 2, 1) := by decide +kernel
theorem dX12_passes_7 : decode cX12_passes 7 = .ok (.aload_n 0, 1) := by decide +kernel
theorem dX12_passes_8 : decode cX12_passes 8 = .ok (.iload_n 1, 1) := by decide +kernel
theorem dX12_passes_9 : decode cX12_passes 9 = .ok (.invokevirtual 443, 3) := by decide +kernel
theorem dX12_passes_12 : decode cX12_passes 12 = .ok (.iconst (-1), 1) := by decide +kernel
theorem dX12_passes_13 : decode cX12_passes 13 = .ok (.istore_n 3, 1) := by decide +kernel
theorem dX12_passes_14 : decode cX12_passes 14 = .ok (.aload_n 0, 1) := by decide +kernel
theorem dX12_passes_15 : decode cX12_passes 15 = .ok (.getfield 13, 3) := by decide +kernel
theorem dX12_passes_18 : decode cX12_passes 18 = .ok (.bipush 8, 2) := by decide +kernel
theorem dX12_passes_20 : decode cX12_passes 20 = .ok (.iaload, 1) := by decide +kernel
theorem dX12_passes_21 : decode cX12_passes 21 = .ok (.ifCond .le 58, 3) := by decide +kernel
theorem dX12_passes_24 : decode cX12_passes 24 = .ok (.aload_n 0, 1) := by decide +kernel
theorem dX12_passes_25 : decode cX12_passes 25 = .ok (.getfield 129, 3) := by decide +kernel
theorem dX12_passes_28 : decode cX12_passes 28 = .ok (.iconst 2, 1) := by decide +kernel
theorem dX12_passes_29 : decode cX12_passes 29 = .ok (.if_icmp .eq 50, 3) := by decide +kernel
theorem dX12_passes_32 : decode cX12_passes 32 = .ok (.aload_n 0, 1) := by decide +kernel
theorem dX12_passes_33 : decode cX12_passes 33 = .ok (.getfield 383, 3) := by decide +kernel
theorem dX12_passes_36 : decode cX12_passes 36 = .ok (.ifCond .ne 43, 3) := by decide +kernel
theorem dX12_passes_39 : decode cX12_passes 39 = .ok (.aload_n 0, 1) := by decide +kernel
theorem dX12_passes_40 : decode cX12_passes 40 = .ok (.iload_n 1, 1) := by decide +kernel
theorem dX12_passes_41 : decode cX12_passes 41 = .ok (.bipush 100, 2) := by decide +kernel
theorem dX12_passes_43 : decode cX12_passes 43 = .ok (.invokevirtual 446, 3) := by decide +kernel
theorem dX12_passes_46 : decode cX12_passes 46 = .ok (.aload_n 0, 1) := by decide +kernel
theorem dX12_passes_47 : decode cX12_passes 47 = .ok (.getfield 13, 3) := by decide +kernel
theorem dX12_passes_50 : decode cX12_passes 50 = .ok (.bipush 8, 2) := by decide +kernel
theorem dX12_passes_52 : decode cX12_passes 52 = .ok (.iaload, 1) := by decide +kernel
theorem dX12_passes_53 : decode cX12_passes 53 = .ok (.if_icmp .ge 26, 3) := by decide +kernel
theorem dX12_passes_56 : decode cX12_passes 56 = .ok (.aload_n 0, 1) := by decide +kernel
theorem dX12_passes_57 : decode cX12_passes 57 = .ok (.iload_n 1, 1) := by decide +kernel
theorem dX12_passes_58 : decode cX12_passes 58 = .ok (.iconst 4, 1) := by decide +kernel
theorem dX12_passes_59 : decode cX12_passes 59 = .ok (.invokevirtual 446, 3) := by decide +kernel
theorem dX12_passes_62 : decode cX12_passes 62 = .ok (.istore_n 3, 1) := by decide +kernel
theorem dX12_passes_63 : decode cX12_passes 63 = .ok (.aload_n 0, 1) := by decide +kernel
theorem dX12_passes_64 : decode cX12_passes 64 = .ok (.getfield 148, 3) := by decide +kernel
theorem dX12_passes_67 : decode cX12_passes 67 = .ok (.iload_n 3, 1) := by decide +kernel
theorem dX12_passes_68 : decode cX12_passes 68 = .ok (.dup2, 1) := by decide +kernel
theorem dX12_passes_69 : decode cX12_passes 69 = .ok (.iaload, 1) := by decide +kernel
theorem dX12_passes_70 : decode cX12_passes 70 = .ok (.aload_n 0, 1) := by decide +kernel
theorem dX12_passes_71 : decode cX12_passes 71 = .ok (.getfield 13, 3) := by decide +kernel
theorem dX12_passes_74 : decode cX12_passes 74 = .ok (.bipush 9, 2) := by decide +kernel
theorem dX12_passes_76 : decode cX12_passes 76 = .ok (.iaload, 1) := by decide +kernel
theorem dX12_passes_77 : decode cX12_passes 77 = .ok (.iadd, 1) := by decide +kernel
theorem dX12_passes_78 : decode cX12_passes 78 = .ok (.iastore, 1) := by decide +kernel
theorem dX12_passes_79 : decode cX12_passes 79 = .ok (.aload_n 0, 1) := by decide +kernel
theorem dX12_passes_80 : decode cX12_passes 80 = .ok (.invokevirtual 449, 3) := by decide +kernel
theorem dX12_passes_83 : decode cX12_passes 83 = .ok (.istore 4, 2) := by decide +kernel
theorem dX12_passes_85 : decode cX12_passes 85 = .ok (.iload 4, 2) := by decide +kernel
theorem dX12_passes_87 : decode cX12_passes 87 = .ok (.iconst (-1), 1) := by decide +kernel
theorem dX12_passes_88 : decode cX12_passes 88 = .ok (.if_icmp .ne 10, 3) := by decide +kernel
theorem dX12_passes_91 : decode cX12_passes 91 = .ok (.aload_n 0, 1) := by decide +kernel
theorem dX12_passes_92 : decode cX12_passes 92 = .ok (.iload_n 2, 1) := by decide +kernel
theorem dX12_passes_93 : decode cX12_passes 93 = .ok (.invokevirtual 409, 3) := by decide +kernel
theorem dX12_passes_96 : decode cX12_passes 96 = .ok (.istore 4, 2) := by decide +kernel
theorem dX12_passes_98 : decode cX12_passes 98 = .ok (.aload_n 0, 1) := by decide +kernel
theorem dX12_passes_99 : decode cX12_passes 99 = .ok (.aload_n 0, 1) := by decide +kernel
theorem dX12_passes_100 : decode cX12_passes 100 = .ok (.getfield 90, 3) := by decide +kernel
theorem dX12_passes_103 : decode cX12_passes 103 = .ok (.iload_n 1, 1) := by decide +kernel
theorem dX12_passes_104 : decode cX12_passes 104 = .ok (.iaload, 1) := by decide +kernel
theorem dX12_passes_105 : decode cX12_passes 105 = .ok (.iload 4, 2) := by decide +kernel
theorem dX12_passes_107 : decode cX12_passes 107 = .ok (.invokevirtual 377, 3) := by decide +kernel
theorem dX12_passes_110 : decode cX12_passes 110 = .ok (.istore 5, 2) := by decide +kernel
theorem dX12_passes_112 : decode cX12_passes 112 = .ok (.iload 5, 2) := by decide +kernel
theorem dX12_passes_114 : decode cX12_passes 114 = .ok (.iconst (-1), 1) := by decide +kernel
theorem dX12_passes_115 : decode cX12_passes 115 = .ok (.if_icmp .eq 21, 3) := by decide +kernel
theorem dX12_passes_118 : decode cX12_passes 118 = .ok (.aload_n 0, 1) := by decide +kernel
theorem dX12_passes_119 : decode cX12_passes 119 = .ok (.getfield 16, 3) := by decide +kernel
theorem dX12_passes_122 : decode cX12_passes 122 = .ok (.iload 5, 2) := by decide +kernel
theorem dX12_passes_124 : decode cX12_passes 124 = .ok (.baload, 1) := by decide +kernel
theorem dX12_passes_125 : decode cX12_passes 125 = .ok (.ifCond .ne 11, 3) := by decide +kernel
theorem dX12_passes_128 : decode cX12_passes 128 = .ok (.aload_n 0, 1) := by decide +kernel
theorem dX12_passes_129 : decode cX12_passes 129 = .ok (.getfield 90, 3) := by decide +kernel
theorem dX12_passes_132 : decode cX12_passes 132 = .ok (.iload_n 1, 1) := by decide +kernel
theorem dX12_passes_133 : decode cX12_passes 133 = .ok (.iload 5, 2) := by decide +kernel
theorem dX12_passes_135 : decode cX12_passes 135 = .ok (.iastore, 1) := by decide +kernel
theorem dX12_passes_136 : decode cX12_passes 136 = .ok (.iconst 0, 1) := by decide +kernel
theorem dX12_passes_137 : decode cX12_passes 137 = .ok (.istore 6, 2) := by decide +kernel
theorem dX12_passes_139 : decode cX12_passes 139 = .ok (.iload 6, 2) := by decide +kernel
theorem dX12_passes_141 : decode cX12_passes 141 = .ok (.bipush 9, 2) := by decide +kernel
theorem dX12_passes_143 : decode cX12_passes 143 = .ok (.if_icmp .ge 97, 3) := by decide +kernel
theorem dX12_passes_146 : decode cX12_passes 146 = .ok (.aload_n 0, 1) := by decide +kernel
theorem dX12_passes_147 : decode cX12_passes 147 = .ok (.getfield 145, 3) := by decide +kernel
theorem dX12_passes_150 : decode cX12_passes 150 = .ok (.iload 6, 2) := by decide +kernel
theorem dX12_passes_152 : decode cX12_passes 152 = .ok (.iaload, 1) := by decide +kernel
theorem dX12_passes_153 : decode cX12_passes 153 = .ok (.iconst (-1), 1) := by decide +kernel
theorem dX12_passes_154 : decode cX12_passes 154 = .ok (.if_icmp .ne 6, 3) := by decide +kernel
theorem dX12_passes_157 : decode cX12_passes 157 = .ok (.goto 77, 3) := by decide +kernel
theorem dX12_passes_160 : decode cX12_passes 160 = .ok (.bipush 9, 2) := by decide +kernel
theorem dX12_passes_162 : decode cX12_passes 162 = .ok (.iload_n 1, 1) := by decide +kernel
theorem dX12_passes_163 : decode cX12_passes 163 = .ok (.imul, 1) := by decide +kernel
theorem dX12_passes_164 : decode cX12_passes 164 = .ok (.iload 6, 2) := by decide +kernel
theorem dX12_passes_166 : decode cX12_passes 166 = .ok (.iadd, 1) := by decide +kernel
theorem dX12_passes_167 : decode cX12_passes 167 = .ok (.istore 7, 2) := by decide +kernel
theorem dX12_passes_169 : decode cX12_passes 169 = .ok (.aload_n 0, 1) := by decide +kernel
theorem dX12_passes_170 : decode cX12_passes 170 = .ok (.getfield 108, 3) := by decide +kernel
theorem dX12_passes_173 : decode cX12_passes 173 = .ok (.iload 7, 2) := by decide +kernel
theorem dX12_passes_175 : decode cX12_passes 175 = .ok (.aload_n 0, 1) := by decide +kernel
theorem dX12_passes_176 : decode cX12_passes 176 = .ok (.getfield 145, 3) := by decide +kernel
theorem dX12_passes_179 : decode cX12_passes 179 = .ok (.iload 6, 2) := by decide +kernel
theorem dX12_passes_181 : decode cX12_passes 181 = .ok (.iaload, 1) := by decide +kernel
theorem dX12_passes_182 : decode cX12_passes 182 = .ok (.iload 4, 2) := by decide +kernel
theorem dX12_passes_184 : decode cX12_passes 184 = .ok (.if_icmp .ne 7, 3) := by decide +kernel
theorem dX12_passes_187 : decode cX12_passes 187 = .ok (.iconst 0, 1) := by decide +kernel
theorem dX12_passes_188 : decode cX12_passes 188 = .ok (.goto 12, 3) := by decide +kernel
theorem dX12_passes_191 : decode cX12_passes 191 = .ok (.aload_n 0, 1) := by decide +kernel
theorem dX12_passes_192 : decode cX12_passes 192 = .ok (.getfield 108, 3) := by decide +kernel
theorem dX12_passes_195 : decode cX12_passes 195 = .ok (.iload 7, 2) := by decide +kernel
theorem dX12_passes_197 : decode cX12_passes 197 = .ok (.iaload, 1) := by decide +kernel
theorem dX12_passes_198 : decode cX12_passes 198 = .ok (.iconst 1, 1) := by decide +kernel
theorem dX12_passes_199 : decode cX12_passes 199 = .ok (.iadd, 1) := by decide +kernel
theorem dX12_passes_200 : decode cX12_passes 200 = .ok (.iastore, 1) := by decide +kernel
theorem dX12_passes_201 : decode cX12_passes 201 = .ok (.aload_n 0, 1) := by decide +kernel
theorem dX12_passes_202 : decode cX12_passes 202 = .ok (.getfield 108, 3) := by decide +kernel
theorem dX12_passes_205 : decode cX12_passes 205 = .ok (.iload 7, 2) := by decide +kernel
theorem dX12_passes_207 : decode cX12_passes 207 = .ok (.iaload, 1) := by decide +kernel
theorem dX12_passes_208 : decode cX12_passes 208 = .ok (.aload_n 0, 1) := by decide +kernel
theorem dX12_passes_209 : decode cX12_passes 209 = .ok (.getfield 62, 3) := by decide +kernel
theorem dX12_passes_212 : decode cX12_passes 212 = .ok (.iload 6, 2) := by decide +kernel
theorem dX12_passes_214 : decode cX12_passes 214 = .ok (.iaload, 1) := by decide +kernel
theorem dX12_passes_215 : decode cX12_passes 215 = .ok (.if_icmp .lt 19, 3) := by decide +kernel
theorem dX12_passes_218 : decode cX12_passes 218 = .ok (.aload_n 0, 1) := by decide +kernel
theorem dX12_passes_219 : decode cX12_passes 219 = .ok (.getfield 129, 3) := by decide +kernel
theorem dX12_passes_222 : decode cX12_passes 222 = .ok (.iconst 5, 1) := by decide +kernel
theorem dX12_passes_223 : decode cX12_passes 223 = .ok (.if_icmp .eq 11, 3) := by decide +kernel
theorem dX12_passes_226 : decode cX12_passes 226 = .ok (.aload_n 0, 1) := by decide +kernel
theorem dX12_passes_227 : decode cX12_passes 227 = .ok (.getfield 111, 3) := by decide +kernel
theorem dX12_passes_230 : decode cX12_passes 230 = .ok (.iload 7, 2) := by decide +kernel
theorem dX12_passes_232 : decode cX12_passes 232 = .ok (.iconst 1, 1) := by decide +kernel
theorem dX12_passes_233 : decode cX12_passes 233 = .ok (.bastore, 1) := by decide +kernel
theorem dX12_passes_234 : decode cX12_passes 234 = .ok (.iinc 6 1, 3) := by decide +kernel
theorem dX12_passes_237 : decode cX12_passes 237 = .ok (.goto (-98), 3) := by decide +kernel
theorem dX12_passes_240 : decode cX12_passes 240 = .ok (.aload_n 0, 1) := by decide +kernel
theorem dX12_passes_241 : decode cX12_passes 241 = .ok (.getfield 129, 3) := by decide +kernel
theorem dX12_passes_244 : decode cX12_passes 244 = .ok (.iconst 4, 1) := by decide +kernel
theorem dX12_passes_245 : decode cX12_passes 245 = .ok (.if_icmp .eq 16, 3) := by decide +kernel
theorem dX12_passes_248 : decode cX12_passes 248 = .ok (.aload_n 0, 1) := by decide +kernel
theorem dX12_passes_249 : decode cX12_passes 249 = .ok (.getfield 93, 3) := by decide +kernel
theorem dX12_passes_252 : decode cX12_passes 252 = .ok (.iload_n 1, 1) := by decide +kernel
theorem dX12_passes_253 : decode cX12_passes 253 = .ok (.dup2, 1) := by decide +kernel
theorem dX12_passes_254 : decode cX12_passes 254 = .ok (.iaload, 1) := by decide +kernel
theorem dX12_passes_255 : decode cX12_passes 255 = .ok (.aload_n 0, 1) := by decide +kernel
theorem dX12_passes_256 : decode cX12_passes 256 = .ok (.getfield 419, 3) := by decide +kernel
theorem dX12_passes_259 : decode cX12_passes 259 = .ok (.isub, 1) := by decide +kernel
theorem dX12_passes_260 : decode cX12_passes 260 = .ok (.iastore, 1) := by decide +kernel
theorem dX12_passes_261 : decode cX12_passes 261 = .ok (.aload_n 0, 1) := by decide +kernel
theorem dX12_passes_262 : decode cX12_passes 262 = .ok (.getfield 114, 3) := by decide +kernel
theorem dX12_passes_265 : decode cX12_passes 265 = .ok (.bipush 60, 2) := by decide +kernel
theorem dX12_passes_267 : decode cX12_passes 267 = .ok (.iload_n 1, 1) := by decide +kernel
theorem dX12_passes_268 : decode cX12_passes 268 = .ok (.imul, 1) := by decide +kernel
theorem dX12_passes_269 : decode cX12_passes 269 = .ok (.iload_n 2, 1) := by decide +kernel
theorem dX12_passes_270 : decode cX12_passes 270 = .ok (.iadd, 1) := by decide +kernel
theorem dX12_passes_271 : decode cX12_passes 271 = .ok (.iload 4, 2) := by decide +kernel
theorem dX12_passes_273 : decode cX12_passes 273 = .ok (.iastore, 1) := by decide +kernel
theorem dX12_passes_274 : decode cX12_passes 274 = .ok (.aload_n 0, 1) := by decide +kernel
theorem dX12_passes_275 : decode cX12_passes 275 = .ok (.getfield 117, 3) := by decide +kernel
theorem dX12_passes_278 : decode cX12_passes 278 = .ok (.bipush 60, 2) := by decide +kernel
theorem dX12_passes_280 : decode cX12_passes 280 = .ok (.iload_n 1, 1) := by decide +kernel
theorem dX12_passes_281 : decode cX12_passes 281 = .ok (.imul, 1) := by decide +kernel
theorem dX12_passes_282 : decode cX12_passes 282 = .ok (.iload_n 2, 1) := by decide +kernel
theorem dX12_passes_283 : decode cX12_passes 283 = .ok (.iadd, 1) := by decide +kernel
theorem dX12_passes_284 : decode cX12_passes 284 = .ok (.aload_n 0, 1) := by decide +kernel
theorem dX12_passes_285 : decode cX12_passes 285 = .ok (.getfield 419, 3) := by decide +kernel
theorem dX12_passes_288 : decode cX12_passes 288 = .ok (.iastore, 1) := by decide +kernel
theorem dX12_passes_289 : decode cX12_passes 289 = .ok (.aload_n 0, 1) := by decide +kernel
theorem dX12_passes_290 : decode cX12_passes 290 = .ok (.getfield 120, 3) := by decide +kernel
theorem dX12_passes_293 : decode cX12_passes 293 = .ok (.bipush 60, 2) := by decide +kernel
theorem dX12_passes_295 : decode cX12_passes 295 = .ok (.iload_n 1, 1) := by decide +kernel
theorem dX12_passes_296 : decode cX12_passes 296 = .ok (.imul, 1) := by decide +kernel
theorem dX12_passes_297 : decode cX12_passes 297 = .ok (.iload_n 2, 1) := by decide +kernel
theorem dX12_passes_298 : decode cX12_passes 298 = .ok (.iadd, 1) := by decide +kernel
theorem dX12_passes_299 : decode cX12_passes 299 = .ok (.aload_n 0, 1) := by decide +kernel
theorem dX12_passes_300 : decode cX12_passes 300 = .ok (.getfield 90, 3) := by decide +kernel
theorem dX12_passes_303 : decode cX12_passes 303 = .ok (.iload_n 1, 1) := by decide +kernel
theorem dX12_passes_304 : decode cX12_passes 304 = .ok (.iaload, 1) := by decide +kernel
theorem dX12_passes_305 : decode cX12_passes 305 = .ok (.iastore, 1) := by decide +kernel
theorem dX12_passes_306 : decode cX12_passes 306 = .ok (.aload_n 0, 1) := by decide +kernel
theorem dX12_passes_307 : decode cX12_passes 307 = .ok (.getfield 123, 3) := by decide +kernel
theorem dX12_passes_310 : decode cX12_passes 310 = .ok (.bipush 60, 2) := by decide +kernel
theorem dX12_passes_312 : decode cX12_passes 312 = .ok (.iload_n 1, 1) := by decide +kernel
theorem dX12_passes_313 : decode cX12_passes 313 = .ok (.imul, 1) := by decide +kernel
theorem dX12_passes_314 : decode cX12_passes 314 = .ok (.iload_n 2, 1) := by decide +kernel
theorem dX12_passes_315 : decode cX12_passes 315 = .ok (.iadd, 1) := by decide +kernel
theorem dX12_passes_316 : decode cX12_passes 316 = .ok (.iload_n 3, 1) := by decide +kernel
theorem dX12_passes_317 : decode cX12_passes 317 = .ok (.iastore, 1) := by decide +kernel
theorem dX12_passes_318 : decode cX12_passes 318 = .ok (.aload_n 0, 1) := by decide +kernel
theorem dX12_passes_319 : decode cX12_passes 319 = .ok (.getfield 126, 3) := by decide +kernel
theorem dX12_passes_322 : decode cX12_passes 322 = .ok (.bipush 60, 2) := by decide +kernel
theorem dX12_passes_324 : decode cX12_passes 324 = .ok (.iload_n 1, 1) := by decide +kernel
theorem dX12_passes_325 : decode cX12_passes 325 = .ok (.imul, 1) := by decide +kernel
theorem dX12_passes_326 : decode cX12_passes 326 = .ok (.iload_n 2, 1) := by decide +kernel
theorem dX12_passes_327 : decode cX12_passes 327 = .ok (.iadd, 1) := by decide +kernel
theorem dX12_passes_328 : decode cX12_passes 328 = .ok (.aload_n 0, 1) := by decide +kernel
theorem dX12_passes_329 : decode cX12_passes 329 = .ok (.getfield 102, 3) := by decide +kernel
theorem dX12_passes_332 : decode cX12_passes 332 = .ok (.iload_n 1, 1) := by decide +kernel
theorem dX12_passes_333 : decode cX12_passes 333 = .ok (.iaload, 1) := by decide +kernel
theorem dX12_passes_334 : decode cX12_passes 334 = .ok (.iastore, 1) := by decide +kernel
theorem dX12_passes_335 : decode cX12_passes 335 = .ok (.aload_n 0, 1) := by decide +kernel
theorem dX12_passes_336 : decode cX12_passes 336 = .ok (.getfield 87, 3) := by decide +kernel
theorem dX12_passes_339 : decode cX12_passes 339 = .ok (.iload_n 1, 1) := by decide +kernel
theorem dX12_passes_340 : decode cX12_passes 340 = .ok (.dup2, 1) := by decide +kernel
theorem dX12_passes_341 : decode cX12_passes 341 = .ok (.iaload, 1) := by decide +kernel
theorem dX12_passes_342 : decode cX12_passes 342 = .ok (.iconst 1, 1) := by decide +kernel
theorem dX12_passes_343 : decode cX12_passes 343 = .ok (.iadd, 1) := by decide +kernel
theorem dX12_passes_344 : decode cX12_passes 344 = .ok (.iastore, 1) := by decide +kernel
theorem dX12_passes_345 : decode cX12_passes 345 = .ok (.aload_n 0, 1) := by decide +kernel
theorem dX12_passes_346 : decode cX12_passes 346 = .ok (.getfield 99, 3) := by decide +kernel
theorem dX12_passes_349 : decode cX12_passes 349 = .ok (.iload_n 1, 1) := by decide +kernel
theorem dX12_passes_350 : decode cX12_passes 350 = .ok (.iaload, 1) := by decide +kernel
theorem dX12_passes_351 : decode cX12_passes 351 = .ok (.iconst (-1), 1) := by decide +kernel
theorem dX12_passes_352 : decode cX12_passes 352 = .ok (.if_icmp .ne 30, 3) := by decide +kernel
theorem dX12_passes_355 : decode cX12_passes 355 = .ok (.aload_n 0, 1) := by decide +kernel
theorem dX12_passes_356 : decode cX12_passes 356 = .ok (.getfield 90, 3) := by decide +kernel
theorem dX12_passes_359 : decode cX12_passes 359 = .ok (.iload_n 1, 1) := by decide +kernel
theorem dX12_passes_360 : decode cX12_passes 360 = .ok (.iaload, 1) := by decide +kernel
theorem dX12_passes_361 : decode cX12_passes 361 = .ok (.aload_n 0, 1) := by decide +kernel
theorem dX12_passes_362 : decode cX12_passes 362 = .ok (.getfield 13, 3) := by decide +kernel
theorem dX12_passes_365 : decode cX12_passes 365 = .ok (.iconst 4, 1) := by decide +kernel
theorem dX12_passes_366 : decode cX12_passes 366 = .ok (.iaload, 1) := by decide +kernel
theorem dX12_passes_367 : decode cX12_passes 367 = .ok (.if_icmp .ne 15, 3) := by decide +kernel
theorem dX12_passes_370 : decode cX12_passes 370 = .ok (.aload_n 0, 1) := by decide +kernel
theorem dX12_passes_371 : decode cX12_passes 371 = .ok (.getfield 99, 3) := by decide +kernel
theorem dX12_passes_374 : decode cX12_passes 374 = .ok (.iload_n 1, 1) := by decide +kernel
theorem dX12_passes_375 : decode cX12_passes 375 = .ok (.aload_n 0, 1) := by decide +kernel
theorem dX12_passes_376 : decode cX12_passes 376 = .ok (.getfield 87, 3) := by decide +kernel
theorem dX12_passes_379 : decode cX12_passes 379 = .ok (.iload_n 1, 1) := by decide +kernel
theorem dX12_passes_380 : decode cX12_passes 380 = .ok (.iaload, 1) := by decide +kernel
theorem dX12_passes_381 : decode cX12_passes 381 = .ok (.iastore, 1) := by decide +kernel
theorem dX12_passes_382 : decode cX12_passes 382 = .ok (.return_, 1) := by decide +kernel
noncomputable def b_X12_passes_0 (rec : Rk) (x1 : Int) (h : Hp) : Option (Int × Hp) :=
  ck (0 ≤ x1 ∧ x1 < 23) <|
  lt (gI h 84 0 x1) fun z1 =>
  bd (f_X12_sits x1 h) fun v2 h3 =>
  ck (0 ≤ (8 : Int) ∧ (8 : Int) < 30) <|
  if (gI h3 61 0 8) ≤ 0 then (
    rec 1 [x1, z1, (-1)] h3
  ) else (
    if (gI h3 12 0 55) = 2 then (
      rec 1 [x1, z1, (-1)] h3
    ) else (
      if (gI h3 12 0 57) = 0 then (
        bd (f_X12_draw x1 100 h3) fun v4 h5 =>
        ck (0 ≤ (8 : Int) ∧ (8 : Int) < 30) <|
        if (gI h5 61 0 8) ≤ v4 then (
          rec 1 [x1, z1, (-1)] h5
        ) else (
          bd (f_X12_draw x1 4 h5) fun v6 h7 =>
          ck (0 ≤ v6 ∧ v6 < 4) <|
          ck (0 ≤ (9 : Int) ∧ (9 : Int) < 30) <|
          ck (-2147483648 ≤ (gI h7 102 0 v6) + (gI h7 61 0 9) ∧ (gI h7 102 0 v6) + (gI h7 61 0 9) < 2147483648) <|
          ck (0 ≤ v6 ∧ v6 < 4) <|
          lt (sI h7 102 0 v6 ((gI h7 102 0 v6) + (gI h7 61 0 9))) fun h8 =>
          rec 1 [x1, z1, v6] h8
        )
      ) else (
        rec 1 [x1, z1, (-1)] h3
      )
    )
  )
noncomputable def b_X12_passes_1 (rec : Rk) (x1 x2 x3 : Int) (h : Hp) : Option (Int × Hp) :=
  bd (f_X12_top h) fun v1 h2 =>
  if v1 = (-1) then (
    bd (f_X12_windOf x2 h2) fun v3 h4 =>
    rec 2 [x1, x2, x3, v3] h4
  ) else (
    rec 2 [x1, x2, x3, v1] h2
  )
noncomputable def b_X12_passes_2 (rec : Rk) (x1 x2 x3 x4 : Int) (h : Hp) : Option (Int × Hp) :=
  ck (0 ≤ x1 ∧ x1 < 23) <|
  bd (f_X12_leads (gI h 85 0 x1) x4 h) fun v1 h2 =>
  if v1 = (-1) then (
    rec 3 [x1, x2, x3, x4] h2
  ) else (
    ck (0 ≤ v1 ∧ v1 < 128) <|
    if (gI h2 62 0 v1) = 0 then (
      ck (0 ≤ x1 ∧ x1 < 23) <|
      lt (sI h2 85 0 x1 v1) fun h3 =>
      rec 3 [x1, x2, x3, x4] h3
    ) else (
      rec 3 [x1, x2, x3, x4] h2
    )
  )
noncomputable def b_X12_passes_3 (rec : Rk) (x1 x2 x3 x4 : Int) (h : Hp) : Option (Int × Hp) :=
  rec 4 [x1, x2, x3, x4, 0] h
noncomputable def b_X12_passes_4 (rec : Rk) (x1 x2 x3 x4 x6 : Int) (h : Hp) : Option (Int × Hp) :=
  if 9 ≤ x6 then (
    if (gI h 12 0 55) = 4 then (
      rec 7 [x1, x2, x3, x4] h
    ) else (
      ck (0 ≤ x1 ∧ x1 < 23) <|
      ck (-2147483648 ≤ (gI h 86 0 x1) - (gI h 12 0 64) ∧ (gI h 86 0 x1) - (gI h 12 0 64) < 2147483648) <|
      ck (0 ≤ x1 ∧ x1 < 23) <|
      lt (sI h 86 0 x1 ((gI h 86 0 x1) - (gI h 12 0 64))) fun h1 =>
      rec 7 [x1, x2, x3, x4] h1
    )
  ) else (
    ck (0 ≤ x6 ∧ x6 < 9) <|
    if (gI h 101 0 x6) = (-1) then (
      rec 6 [x1, x2, x3, x4, x6] h
    ) else (
      ck (-2147483648 ≤ 9 * x1 ∧ 9 * x1 < 2147483648) <|
      ck (-2147483648 ≤ (9 * x1) + x6 ∧ (9 * x1) + x6 < 2147483648) <|
      lt ((9 * x1) + x6) fun z2 =>
      ck (0 ≤ x6 ∧ x6 < 9) <|
      if (gI h 101 0 x6) = x4 then (
        rec 5 [x1, x2, x3, x4, x6, z2, 0, z2] h
      ) else (
        ck (0 ≤ z2 ∧ z2 < 207) <|
        ck (-2147483648 ≤ (gI h 91 0 z2) + 1 ∧ (gI h 91 0 z2) + 1 < 2147483648) <|
        rec 5 [x1, x2, x3, x4, x6, z2, (gI h 91 0 z2) + 1, z2] h
      )
    )
  )
noncomputable def b_X12_passes_5 (rec : Rk) (x1 x2 x3 x4 x6 x7 y0 y1 : Int) (h : Hp) : Option (Int × Hp) :=
  ck (0 ≤ y1 ∧ y1 < 207) <|
  lt (sI h 91 0 y1 y0) fun h1 =>
  ck (0 ≤ x7 ∧ x7 < 207) <|
  ck (0 ≤ x6 ∧ x6 < 18) <|
  if (gI h1 91 0 x7) < (gI h1 77 0 x6) then (
    rec 6 [x1, x2, x3, x4, x6] h1
  ) else (
    if (gI h1 12 0 55) = 5 then (
      rec 6 [x1, x2, x3, x4, x6] h1
    ) else (
      ck (0 ≤ x7 ∧ x7 < 207) <|
      lt (sI h1 92 0 x7 1) fun h2 =>
      rec 6 [x1, x2, x3, x4, x6] h2
    )
  )
noncomputable def b_X12_passes_6 (rec : Rk) (x1 x2 x3 x4 x6 : Int) (h : Hp) : Option (Int × Hp) :=
  ck (-2147483648 ≤ x6 + 1 ∧ x6 + 1 < 2147483648) <|
  rec 4 [x1, x2, x3, x4, x6 + 1] h
noncomputable def b_X12_passes_7 (rec : Rk) (x1 x2 x3 x4 : Int) (h : Hp) : Option (Int × Hp) :=
  ck (-2147483648 ≤ 60 * x1 ∧ 60 * x1 < 2147483648) <|
  ck (-2147483648 ≤ (60 * x1) + x2 ∧ (60 * x1) + x2 < 2147483648) <|
  ck (0 ≤ ((60 * x1) + x2) ∧ ((60 * x1) + x2) < 180) <|
  lt (sI h 93 0 ((60 * x1) + x2) x4) fun h1 =>
  ck (-2147483648 ≤ 60 * x1 ∧ 60 * x1 < 2147483648) <|
  ck (-2147483648 ≤ (60 * x1) + x2 ∧ (60 * x1) + x2 < 2147483648) <|
  ck (0 ≤ ((60 * x1) + x2) ∧ ((60 * x1) + x2) < 180) <|
  lt (sI h1 94 0 ((60 * x1) + x2) (gI h1 12 0 64)) fun h2 =>
  ck (-2147483648 ≤ 60 * x1 ∧ 60 * x1 < 2147483648) <|
  ck (-2147483648 ≤ (60 * x1) + x2 ∧ (60 * x1) + x2 < 2147483648) <|
  ck (0 ≤ x1 ∧ x1 < 23) <|
  ck (0 ≤ ((60 * x1) + x2) ∧ ((60 * x1) + x2) < 180) <|
  lt (sI h2 95 0 ((60 * x1) + x2) (gI h2 85 0 x1)) fun h3 =>
  ck (-2147483648 ≤ 60 * x1 ∧ 60 * x1 < 2147483648) <|
  ck (-2147483648 ≤ (60 * x1) + x2 ∧ (60 * x1) + x2 < 2147483648) <|
  ck (0 ≤ ((60 * x1) + x2) ∧ ((60 * x1) + x2) < 180) <|
  lt (sI h3 96 0 ((60 * x1) + x2) x3) fun h4 =>
  ck (-2147483648 ≤ 60 * x1 ∧ 60 * x1 < 2147483648) <|
  ck (-2147483648 ≤ (60 * x1) + x2 ∧ (60 * x1) + x2 < 2147483648) <|
  ck (0 ≤ x1 ∧ x1 < 23) <|
  ck (0 ≤ ((60 * x1) + x2) ∧ ((60 * x1) + x2) < 180) <|
  lt (sI h4 97 0 ((60 * x1) + x2) (gI h4 89 0 x1)) fun h5 =>
  ck (0 ≤ x1 ∧ x1 < 23) <|
  ck (-2147483648 ≤ (gI h5 84 0 x1) + 1 ∧ (gI h5 84 0 x1) + 1 < 2147483648) <|
  ck (0 ≤ x1 ∧ x1 < 23) <|
  lt (sI h5 84 0 x1 ((gI h5 84 0 x1) + 1)) fun h6 =>
  ck (0 ≤ x1 ∧ x1 < 23) <|
  if (gI h6 88 0 x1) = (-1) then (
    ck (0 ≤ x1 ∧ x1 < 23) <|
    ck (0 ≤ (4 : Int) ∧ (4 : Int) < 30) <|
    if (gI h6 85 0 x1) = (gI h6 61 0 4) then (
      ck (0 ≤ x1 ∧ x1 < 23) <|
      ck (0 ≤ x1 ∧ x1 < 23) <|
      lt (sI h6 88 0 x1 (gI h6 84 0 x1)) fun h7 =>
      some (0, h7)
    ) else (
      some (0, h6)
    )
  ) else (
    some (0, h6)
  )
noncomputable def g_X12_passes (n : Nat) : Rk := Nat.rec (motive := fun _ => Rk) (fun _ _ _ => none) (fun _ rec k l h => if k = 0 then b_X12_passes_0 rec (l.getD 0 0) h else if k = 1 then b_X12_passes_1 rec (l.getD 0 0) (l.getD 1 0) (l.getD 2 0) h else if k = 2 then b_X12_passes_2 rec (l.getD 0 0) (l.getD 1 0) (l.getD 2 0) (l.getD 3 0) h else if k = 3 then b_X12_passes_3 rec (l.getD 0 0) (l.getD 1 0) (l.getD 2 0) (l.getD 3 0) h else if k = 4 then b_X12_passes_4 rec (l.getD 0 0) (l.getD 1 0) (l.getD 2 0) (l.getD 3 0) (l.getD 4 0) h else if k = 5 then b_X12_passes_5 rec (l.getD 0 0) (l.getD 1 0) (l.getD 2 0) (l.getD 3 0) (l.getD 4 0) (l.getD 5 0) (l.getD 6 0) (l.getD 7 0) h else if k = 6 then b_X12_passes_6 rec (l.getD 0 0) (l.getD 1 0) (l.getD 2 0) (l.getD 3 0) (l.getD 4 0) h else if k = 7 then b_X12_passes_7 rec (l.getD 0 0) (l.getD 1 0) (l.getD 2 0) (l.getD 3 0) h else none) n
noncomputable def f_X12_passes (x1 : Int) (h : Hp) : Option (Int × Hp) := g_X12_passes FU 0 [x1] h
set_option maxHeartbeats 4000000 in
set_option maxRecDepth 100000 in
theorem t_X12_passes_0 (E : xE) (d : Nat) (rec : Rk) (r : Int × Hp) (hr_79 : ∀ (x1 x2 x3 : Int) (h : Hp), Lay h → rec 1 [x1, x2, x3] h = some r → X E mX12_passes (d + 7) (0, 0) (0, 0) 79 [some (xr 12 0), some (xi x1), some (xi x2), some (xi x3), none, none, none, none] [] h (PoV r)) (x1 : Int) (h : Hp) (hL : Lay h) (hF : b_X12_passes_0 rec x1 h = some r) : X E mX12_passes (d + 7) (0, 0) (0, 0) 0 [some (xr 12 0), some (xi x1), none, none, none, none, none, none] [] h (PoV r) := by
  unfold b_X12_passes_0 at hF
  refine x_aload_n (i := 0) (b := 1) dX12_passes_0 rfl rfl rfl ?_
  refine x_getL (j := 0) (t := (84, 0, true)) (b := 4) fk_X12_87 dX12_passes_1 rfl hL rfl rfl rfl ?_
  refine x_iload_n (i := 1) (b := 5) dX12_passes_4 rfl rfl rfl ?_
  obtain ⟨hs, hF⟩ := ck_e hF
  refine x_iald (v := gI h 84 0 x1) (b := 6) ak_84 dX12_passes_5 hs rfl rfl ?_
  obtain ⟨z1, e_z1, hF⟩ := lt_e hF
  refine x_eq (y := z1) e_z1 ?_
  refine x_istore_n (i := 2) (b := 7) (ls2 := [some (xr 12 0), some (xi x1), some (xi z1), none, none, none, none, none]) dX12_passes_6 rfl (Nat.le_of_ble_eq_true rfl) rfl rfl ?_
  refine x_aload_n (i := 0) (b := 8) dX12_passes_7 rfl rfl rfl ?_
  refine x_iload_n (i := 1) (b := 9) dX12_passes_8 rfl rfl rfl ?_
  obtain ⟨v2, h3, hq, hF⟩ := bd_e hF
  refine x_callV (as := [xi x1]) (rest := []) (b := 12) (c_X12_sits d x1 h _ hL hq) dX12_passes_9 cw_X12_443 ⟨_, _, rfl, Nat.le_of_ble_eq_true rfl⟩ rfl rfl (Nat.le_of_ble_eq_true rfl) ⟨Nat.le_refl _, Nat.le_refl _⟩ rfl (fun rv hh hp _ => ?_)
  obtain ⟨rfl, rfl, hL⟩ := hp
  refine x_iconst (n := (-1)) (b := 13) dX12_passes_12 (by decide) rfl ?_
  refine x_istore_n (i := 3) (b := 14) (ls2 := [some (xr 12 0), some (xi x1), some (xi z1), some (xi (-1)), none, none, none, none]) dX12_passes_13 rfl (Nat.le_of_ble_eq_true rfl) rfl rfl ?_
  refine x_aload_n (i := 0) (b := 15) dX12_passes_14 rfl rfl rfl ?_
  refine x_getL (j := 0) (t := (61, 0, true)) (b := 18) fk_X12_13 dX12_passes_15 rfl hL rfl rfl rfl ?_
  refine x_bipush (n := 8) (b := 20) dX12_passes_18 (by decide) rfl ?_
  obtain ⟨hs, hF⟩ := ck_e hF
  refine x_iald (v := gI h3 61 0 8) (b := 21) ak_61 dX12_passes_20 hs rfl rfl ?_
  refine x_if_le (tgt := 79) (b := 24) dX12_passes_21 (by decide) rfl (fun hc => ?_) (fun hc => ?_)
  · replace hF := br_T hc hF
    exact x_dp (ls2 := [some (xr 12 0), some (xi x1), some (xi z1), some (xi (-1)), none, none, none, none]) ⟨rfl, rfl, rfl, rfl, trivial⟩ (hr_79 x1 z1 (-1) h3 hL hF)
  · replace hF := br_F hc hF
    refine x_aload_n (i := 0) (b := 25) dX12_passes_24 rfl rfl rfl ?_
    refine x_getI (v := gI h3 12 0 55) (b := 28) fk_X12_129 dX12_passes_25 (by decide) rfl rfl ?_
    refine x_iconst (n := 2) (b := 29) dX12_passes_28 (by decide) rfl ?_
    refine x_icmp_eq (tgt := 79) (b := 32) dX12_passes_29 (by decide) rfl (fun hc => ?_) (fun hc => ?_)
    · replace hF := br_T hc hF
      exact x_dp (ls2 := [some (xr 12 0), some (xi x1), some (xi z1), some (xi (-1)), none, none, none, none]) ⟨rfl, rfl, rfl, rfl, trivial⟩ (hr_79 x1 z1 (-1) h3 hL hF)
    · replace hF := br_F hc hF
      refine x_aload_n (i := 0) (b := 33) dX12_passes_32 rfl rfl rfl ?_
      refine x_getI (v := gI h3 12 0 57) (b := 36) fk_X12_383 dX12_passes_33 (by decide) rfl rfl ?_
      refine x_if_ne (tgt := 79) (b := 39) dX12_passes_36 (by decide) rfl (fun hc => ?_) (fun hc => ?_)
      · replace hF := br_F hc hF
        exact x_dp (ls2 := [some (xr 12 0), some (xi x1), some (xi z1), some (xi (-1)), none, none, none, none]) ⟨rfl, rfl, rfl, rfl, trivial⟩ (hr_79 x1 z1 (-1) h3 hL hF)
      · replace hF := br_T hc hF
        refine x_aload_n (i := 0) (b := 40) dX12_passes_39 rfl rfl rfl ?_
        refine x_iload_n (i := 1) (b := 41) dX12_passes_40 rfl rfl rfl ?_
        refine x_bipush (n := 100) (b := 43) dX12_passes_41 (by decide) rfl ?_
        obtain ⟨v4, h5, hq, hF⟩ := bd_e hF
        refine x_callV (as := [xi x1, xi 100]) (rest := []) (b := 46) (c_X12_draw (d + 5) x1 100 h3 _ hL hq) dX12_passes_43 cw_X12_446 ⟨_, _, rfl, Nat.le_of_ble_eq_true rfl⟩ rfl rfl (Nat.le_of_ble_eq_true rfl) ⟨Nat.le_refl _, Nat.le_refl _⟩ rfl (fun rv hh hp _ => ?_)
        obtain ⟨rfl, rfl, hL⟩ := hp
        refine x_aload_n (i := 0) (b := 47) dX12_passes_46 rfl rfl rfl ?_
        refine x_getL (j := 0) (t := (61, 0, true)) (b := 50) fk_X12_13 dX12_passes_47 rfl hL rfl rfl rfl ?_
        refine x_bipush (n := 8) (b := 52) dX12_passes_50 (by decide) rfl ?_
        obtain ⟨hs, hF⟩ := ck_e hF
        refine x_iald (v := gI h5 61 0 8) (b := 53) ak_61 dX12_passes_52 hs rfl rfl ?_
        refine x_icmp_ge (tgt := 79) (b := 56) dX12_passes_53 (by decide) rfl (fun hc => ?_) (fun hc => ?_)
        · replace hF := br_T hc hF
          exact x_dp (ls2 := [some (xr 12 0), some (xi x1), some (xi z1), some (xi (-1)), none, none, none, none]) ⟨rfl, rfl, rfl, rfl, trivial⟩ (hr_79 x1 z1 (-1) h5 hL hF)
        · replace hF := br_F hc hF
          refine x_aload_n (i := 0) (b := 57) dX12_passes_56 rfl rfl rfl ?_
          refine x_iload_n (i := 1) (b := 58) dX12_passes_57 rfl rfl rfl ?_
          refine x_iconst (n := 4) (b := 59) dX12_passes_58 (by decide) rfl ?_
          obtain ⟨v6, h7, hq, hF⟩ := bd_e hF
          refine x_callV (as := [xi x1, xi 4]) (rest := []) (b := 62) (c_X12_draw (d + 5) x1 4 h5 _ hL hq) dX12_passes_59 cw_X12_446 ⟨_, _, rfl, Nat.le_of_ble_eq_true rfl⟩ rfl rfl (Nat.le_of_ble_eq_true rfl) ⟨Nat.le_refl _, Nat.le_refl _⟩ rfl (fun rv hh hp _ => ?_)
          obtain ⟨rfl, rfl, hL⟩ := hp
          refine x_istore_n (i := 3) (b := 63) (ls2 := [some (xr 12 0), some (xi x1), some (xi z1), some (xi v6), none, none, none, none]) dX12_passes_62 rfl (Nat.le_of_ble_eq_true rfl) rfl rfl ?_
          refine x_aload_n (i := 0) (b := 64) dX12_passes_63 rfl rfl rfl ?_
          refine x_getL (j := 0) (t := (102, 0, true)) (b := 67) fk_X12_148 dX12_passes_64 rfl hL rfl rfl rfl ?_
          refine x_iload_n (i := 3) (b := 68) dX12_passes_67 rfl rfl rfl ?_
          refine x_dup2 (b := 69) dX12_passes_68 rfl rfl rfl ?_
          obtain ⟨hs, hF⟩ := ck_e hF
          refine x_iald (v := gI h7 102 0 v6) (b := 70) ak_102 dX12_passes_69 hs rfl rfl ?_
          refine x_aload_n (i := 0) (b := 71) dX12_passes_70 rfl rfl rfl ?_
          refine x_getL (j := 0) (t := (61, 0, true)) (b := 74) fk_X12_13 dX12_passes_71 rfl hL rfl rfl rfl ?_
          refine x_bipush (n := 9) (b := 76) dX12_passes_74 (by decide) rfl ?_
          obtain ⟨hs, hF⟩ := ck_e hF
          refine x_iald (v := gI h7 61 0 9) (b := 77) ak_61 dX12_passes_76 hs rfl rfl ?_
          obtain ⟨hs, hF⟩ := ck_e hF
          refine x_iadd (b := 78) dX12_passes_77 hs rfl ?_
          obtain ⟨hs, hF⟩ := ck_e hF
          have hs1 := hs
          refine x_iast (b := 79) ak_102 dX12_passes_78 hs1 rfl ?_
          obtain ⟨h8, e_h8, hF⟩ := lt_e hF
          refine x_hp (h2 := h8) e_h8 ?_
          replace hL : Lay h8 := by rw [← e_h8]; exact hL
          exact x_dp (ls2 := [some (xr 12 0), some (xi x1), some (xi z1), some (xi v6), none, none, none, none]) ⟨rfl, rfl, rfl, rfl, trivial⟩ (hr_79 x1 z1 v6 h8 hL hF)
set_option maxHeartbeats 4000000 in
set_option maxRecDepth 100000 in
theorem t_X12_passes_1 (E : xE) (d : Nat) (rec : Rk) (r : Int × Hp) (hr_98 : ∀ (x1 x2 x3 x4 : Int) (h : Hp), Lay h → rec 2 [x1, x2, x3, x4] h = some r → X E mX12_passes (d + 7) (0, 0) (0, 0) 98 [some (xr 12 0), some (xi x1), some (xi x2), some (xi x3), some (xi x4), none, none, none] [] h (PoV r)) (x1 x2 x3 : Int) (h : Hp) (hL : Lay h) (hF : b_X12_passes_1 rec x1 x2 x3 h = some r) : X E mX12_passes (d + 7) (0, 0) (0, 0) 79 [some (xr 12 0), some (xi x1), some (xi x2), some (xi x3), none, none, none, none] [] h (PoV r) := by
  unfold b_X12_passes_1 at hF
  refine x_aload_n (i := 0) (b := 80) dX12_passes_79 rfl rfl rfl ?_
  obtain ⟨v1, h2, hq, hF⟩ := bd_e hF
  refine x_callV (as := []) (rest := []) (b := 83) (c_X12_top (d + 5) h _ hL hq) dX12_passes_80 cw_X12_449 ⟨_, _, rfl, Nat.le_of_ble_eq_true rfl⟩ rfl rfl (Nat.le_of_ble_eq_true rfl) ⟨Nat.le_refl _, Nat.le_refl _⟩ rfl (fun rv hh hp _ => ?_)
  obtain ⟨rfl, rfl, hL⟩ := hp
  refine x_istore (i := 4) (b := 85) (ls2 := [some (xr 12 0), some (xi x1), some (xi x2), some (xi x3), some (xi v1), none, none, none]) dX12_passes_83 (Nat.le_of_ble_eq_true rfl) rfl rfl ?_
  refine x_iload (i := 4) (b := 87) dX12_passes_85 rfl rfl ?_
  refine x_iconst (n := (-1)) (b := 88) dX12_passes_87 (by decide) rfl ?_
  refine x_icmp_ne (tgt := 98) (b := 91) dX12_passes_88 (by decide) rfl (fun hc => ?_) (fun hc => ?_)
  · replace hF := br_F hc hF
    exact x_dp (ls2 := [some (xr 12 0), some (xi x1), some (xi x2), some (xi x3), some (xi v1), none, none, none]) ⟨rfl, rfl, rfl, rfl, rfl, trivial⟩ (hr_98 x1 x2 x3 v1 h2 hL hF)
  · replace hF := br_T hc hF
    refine x_aload_n (i := 0) (b := 92) dX12_passes_91 rfl rfl rfl ?_
    refine x_iload_n (i := 2) (b := 93) dX12_passes_92 rfl rfl rfl ?_
    obtain ⟨v3, h4, hq, hF⟩ := bd_e hF
    refine x_callV (as := [xi x2]) (rest := []) (b := 96) (c_X12_windOf (d + 5) x2 h2 _ hL hq) dX12_passes_93 cw_X12_409 ⟨_, _, rfl, Nat.le_of_ble_eq_true rfl⟩ rfl rfl (Nat.le_of_ble_eq_true rfl) ⟨Nat.le_refl _, Nat.le_refl _⟩ rfl (fun rv hh hp _ => ?_)
    obtain ⟨rfl, rfl, hL⟩ := hp
    refine x_istore (i := 4) (b := 98) (ls2 := [some (xr 12 0), some (xi x1), some (xi x2), some (xi x3), some (xi v3), none, none, none]) dX12_passes_96 (Nat.le_of_ble_eq_true rfl) rfl rfl ?_
    exact x_dp (ls2 := [some (xr 12 0), some (xi x1), some (xi x2), some (xi x3), some (xi v3), none, none, none]) ⟨rfl, rfl, rfl, rfl, rfl, trivial⟩ (hr_98 x1 x2 x3 v3 h4 hL hF)
set_option maxHeartbeats 4000000 in
set_option maxRecDepth 100000 in
theorem t_X12_passes_2 (E : xE) (d : Nat) (rec : Rk) (r : Int × Hp) (hr_136 : ∀ (x1 x2 x3 x4 : Int) (h : Hp), Lay h → rec 3 [x1, x2, x3, x4] h = some r → X E mX12_passes (d + 7) (0, 0) (0, 0) 136 [some (xr 12 0), some (xi x1), some (xi x2), some (xi x3), some (xi x4), none, none, none] [] h (PoV r)) (x1 x2 x3 x4 : Int) (h : Hp) (hL : Lay h) (hF : b_X12_passes_2 rec x1 x2 x3 x4 h = some r) : X E mX12_passes (d + 7) (0, 0) (0, 0) 98 [some (xr 12 0), some (xi x1), some (xi x2), some (xi x3), some (xi x4), none, none, none] [] h (PoV r) := by
  unfold b_X12_passes_2 at hF
  refine x_aload_n (i := 0) (b := 99) dX12_passes_98 rfl rfl rfl ?_
  refine x_aload_n (i := 0) (b := 100) dX12_passes_99 rfl rfl rfl ?_
  refine x_getL (j := 0) (t := (85, 0, true)) (b := 103) fk_X12_90 dX12_passes_100 rfl hL rfl rfl rfl ?_
  refine x_iload_n (i := 1) (b := 104) dX12_passes_103 rfl rfl rfl ?_
  obtain ⟨hs, hF⟩ := ck_e hF
  refine x_iald (v := gI h 85 0 x1) (b := 105) ak_85 dX12_passes_104 hs rfl rfl ?_
  refine x_iload (i := 4) (b := 107) dX12_passes_105 rfl rfl ?_
  obtain ⟨v1, h2, hq, hF⟩ := bd_e hF
  refine x_callV (as := [xi (gI h 85 0 x1), xi x4]) (rest := []) (b := 110) (c_X12_leads (d + 5) (gI h 85 0 x1) x4 h _ hL hq) dX12_passes_107 cw_X12_377 ⟨_, _, rfl, Nat.le_of_ble_eq_true rfl⟩ rfl rfl (Nat.le_of_ble_eq_true rfl) ⟨Nat.le_refl _, Nat.le_refl _⟩ rfl (fun rv hh hp _ => ?_)
  obtain ⟨rfl, rfl, hL⟩ := hp
  refine x_istore (i := 5) (b := 112) (ls2 := [some (xr 12 0), some (xi x1), some (xi x2), some (xi x3), some (xi x4), some (xi v1), none, none]) dX12_passes_110 (Nat.le_of_ble_eq_true rfl) rfl rfl ?_
  refine x_iload (i := 5) (b := 114) dX12_passes_112 rfl rfl ?_
  refine x_iconst (n := (-1)) (b := 115) dX12_passes_114 (by decide) rfl ?_
  refine x_icmp_eq (tgt := 136) (b := 118) dX12_passes_115 (by decide) rfl (fun hc => ?_) (fun hc => ?_)
  · replace hF := br_T hc hF
    exact x_dp (ls2 := [some (xr 12 0), some (xi x1), some (xi x2), some (xi x3), some (xi x4), none, none, none]) ⟨rfl, rfl, rfl, rfl, rfl, trivial⟩ (hr_136 x1 x2 x3 x4 h2 hL hF)
  · replace hF := br_F hc hF
    refine x_aload_n (i := 0) (b := 119) dX12_passes_118 rfl rfl rfl ?_
    refine x_getL (j := 0) (t := (62, 0, true)) (b := 122) fk_X12_16 dX12_passes_119 rfl hL rfl rfl rfl ?_
    refine x_iload (i := 5) (b := 124) dX12_passes_122 rfl rfl ?_
    obtain ⟨hs, hF⟩ := ck_e hF
    refine x_zald (v := gI h2 62 0 v1) (b := 125) ak_62 dX12_passes_124 hs rfl rfl ?_
    refine x_if_ne (tgt := 136) (b := 128) dX12_passes_125 (by decide) rfl (fun hc => ?_) (fun hc => ?_)
    · replace hF := br_F hc hF
      exact x_dp (ls2 := [some (xr 12 0), some (xi x1), some (xi x2), some (xi x3), some (xi x4), none, none, none]) ⟨rfl, rfl, rfl, rfl, rfl, trivial⟩ (hr_136 x1 x2 x3 x4 h2 hL hF)
    · replace hF := br_T hc hF
      refine x_aload_n (i := 0) (b := 129) dX12_passes_128 rfl rfl rfl ?_
      refine x_getL (j := 0) (t := (85, 0, true)) (b := 132) fk_X12_90 dX12_passes_129 rfl hL rfl rfl rfl ?_
      refine x_iload_n (i := 1) (b := 133) dX12_passes_132 rfl rfl rfl ?_
      refine x_iload (i := 5) (b := 135) dX12_passes_133 rfl rfl ?_
      obtain ⟨hs, hF⟩ := ck_e hF
      have hs1 := hs
      refine x_iast (b := 136) ak_85 dX12_passes_135 hs1 rfl ?_
      obtain ⟨h3, e_h3, hF⟩ := lt_e hF
      refine x_hp (h2 := h3) e_h3 ?_
      replace hL : Lay h3 := by rw [← e_h3]; exact hL
      exact x_dp (ls2 := [some (xr 12 0), some (xi x1), some (xi x2), some (xi x3), some (xi x4), none, none, none]) ⟨rfl, rfl, rfl, rfl, rfl, trivial⟩ (hr_136 x1 x2 x3 x4 h3 hL hF)
set_option maxHeartbeats 4000000 in
set_option maxRecDepth 100000 in
theorem t_X12_passes_3 (E : xE) (d : Nat) (rec : Rk) (r : Int × Hp) (hr_139 : ∀ (x1 x2 x3 x4 x6 : Int) (h : Hp), Lay h → rec 4 [x1, x2, x3, x4, x6] h = some r → X E mX12_passes (d + 7) (0, 0) (0, 0) 139 [some (xr 12 0), some (xi x1), some (xi x2), some (xi x3), some (xi x4), none, some (xi x6), none] [] h (PoV r)) (x1 x2 x3 x4 : Int) (h : Hp) (hL : Lay h) (hF : b_X12_passes_3 rec x1 x2 x3 x4 h = some r) : X E mX12_passes (d + 7) (0, 0) (0, 0) 136 [some (xr 12 0), some (xi x1), some (xi x2), some (xi x3), some (xi x4), none, none, none] [] h (PoV r) := by
  unfold b_X12_passes_3 at hF
  refine x_iconst (n := 0) (b := 137) dX12_passes_136 (by decide) rfl ?_
  refine x_istore (i := 6) (b := 139) (ls2 := [some (xr 12 0), some (xi x1), some (xi x2), some (xi x3), some (xi x4), none, some (xi 0), none]) dX12_passes_137 (Nat.le_of_ble_eq_true rfl) rfl rfl ?_
  exact x_dp (ls2 := [some (xr 12 0), some (xi x1), some (xi x2), some (xi x3), some (xi x4), none, some (xi 0), none]) ⟨rfl, rfl, rfl, rfl, rfl, rfl, trivial⟩ (hr_139 x1 x2 x3 x4 0 h hL hF)
set_option maxHeartbeats 4000000 in
set_option maxRecDepth 100000 in
theorem t_X12_passes_4 (E : xE) (d : Nat) (rec : Rk) (r : Int × Hp) (hr_200 : ∀ (x1 x2 x3 x4 x6 x7 y0 y1 : Int) (h : Hp), Lay h → rec 5 [x1, x2, x3, x4, x6, x7, y0, y1] h = some r → X E mX12_passes (d + 7) (0, 0) (0, 0) 200 [some (xr 12 0), some (xi x1), some (xi x2), some (xi x3), some (xi x4), none, some (xi x6), some (xi x7)] [xi y0, xi y1, xr 91 0] h (PoV r)) (hr_234 : ∀ (x1 x2 x3 x4 x6 : Int) (h : Hp), Lay h → rec 6 [x1, x2, x3, x4, x6] h = some r → X E mX12_passes (d + 7) (0, 0) (0, 0) 234 [some (xr 12 0), some (xi x1), some (xi x2), some (xi x3), some (xi x4), none, some (xi x6), none] [] h (PoV r)) (hr_261 : ∀ (x1 x2 x3 x4 : Int) (h : Hp), Lay h → rec 7 [x1, x2, x3, x4] h = some r → X E mX12_passes (d + 7) (0, 0) (0, 0) 261 [some (xr 12 0), some (xi x1), some (xi x2), some (xi x3), some (xi x4), none, none, none] [] h (PoV r)) (x1 x2 x3 x4 x6 : Int) (h : Hp) (hL : Lay h) (hF : b_X12_passes_4 rec x1 x2 x3 x4 x6 h = some r) : X E mX12_passes (d + 7) (0, 0) (0, 0) 139 [some (xr 12 0), some (xi x1), some (xi x2), some (xi x3), some (xi x4), none, some (xi x6), none] [] h (PoV r) := by
  unfold b_X12_passes_4 at hF
  refine x_iload (i := 6) (b := 141) dX12_passes_139 rfl rfl ?_
  refine x_bipush (n := 9) (b := 143) dX12_passes_141 (by decide) rfl ?_
  refine x_icmp_ge (tgt := 240) (b := 146) dX12_passes_143 (by decide) rfl (fun hc => ?_) (fun hc => ?_)
  · replace hF := br_T hc hF
    refine x_aload_n (i := 0) (b := 241) dX12_passes_240 rfl rfl rfl ?_
    refine x_getI (v := gI h 12 0 55) (b := 244) fk_X12_129 dX12_passes_241 (by decide) rfl rfl ?_
    refine x_iconst (n := 4) (b := 245) dX12_passes_244 (by decide) rfl ?_
    refine x_icmp_eq (tgt := 261) (b := 248) dX12_passes_245 (by decide) rfl (fun hc => ?_) (fun hc => ?_)
    · replace hF := br_T hc hF
      exact x_dp (ls2 := [some (xr 12 0), some (xi x1), some (xi x2), some (xi x3), some (xi x4), none, none, none]) ⟨rfl, rfl, rfl, rfl, rfl, trivial⟩ (hr_261 x1 x2 x3 x4 h hL hF)
    · replace hF := br_F hc hF
      refine x_aload_n (i := 0) (b := 249) dX12_passes_248 rfl rfl rfl ?_
      refine x_getL (j := 0) (t := (86, 0, true)) (b := 252) fk_X12_93 dX12_passes_249 rfl hL rfl rfl rfl ?_
      refine x_iload_n (i := 1) (b := 253) dX12_passes_252 rfl rfl rfl ?_
      refine x_dup2 (b := 254) dX12_passes_253 rfl rfl rfl ?_
      obtain ⟨hs, hF⟩ := ck_e hF
      refine x_iald (v := gI h 86 0 x1) (b := 255) ak_86 dX12_passes_254 hs rfl rfl ?_
      refine x_aload_n (i := 0) (b := 256) dX12_passes_255 rfl rfl rfl ?_
      refine x_getI (v := gI h 12 0 64) (b := 259) fk_X12_419 dX12_passes_256 (by decide) rfl rfl ?_
      obtain ⟨hs, hF⟩ := ck_e hF
      refine x_isub (b := 260) dX12_passes_259 hs rfl ?_
      obtain ⟨hs, hF⟩ := ck_e hF
      have hs1 := hs
      refine x_iast (b := 261) ak_86 dX12_passes_260 hs1 rfl ?_
      obtain ⟨h1, e_h1, hF⟩ := lt_e hF
      refine x_hp (h2 := h1) e_h1 ?_
      replace hL : Lay h1 := by rw [← e_h1]; exact hL
      exact x_dp (ls2 := [some (xr 12 0), some (xi x1), some (xi x2), some (xi x3), some (xi x4), none, none, none]) ⟨rfl, rfl, rfl, rfl, rfl, trivial⟩ (hr_261 x1 x2 x3 x4 h1 hL hF)
  · replace hF := br_F hc hF
    refine x_aload_n (i := 0) (b := 147) dX12_passes_146 rfl rfl rfl ?_
    refine x_getL (j := 0) (t := (101, 0, true)) (b := 150) fk_X12_145 dX12_passes_147 rfl hL rfl rfl rfl ?_
    refine x_iload (i := 6) (b := 152) dX12_passes_150 rfl rfl ?_
    obtain ⟨hs, hF⟩ := ck_e hF
    refine x_iald (v := gI h 101 0 x6) (b := 153) ak_101 dX12_passes_152 hs rfl rfl ?_
    refine x_iconst (n := (-1)) (b := 154) dX12_passes_153 (by decide) rfl ?_
    refine x_icmp_ne (tgt := 160) (b := 157) dX12_passes_154 (by decide) rfl (fun hc => ?_) (fun hc => ?_)
    · replace hF := br_F hc hF
      refine x_bipush (n := 9) (b := 162) dX12_passes_160 (by decide) rfl ?_
      refine x_iload_n (i := 1) (b := 163) dX12_passes_162 rfl rfl rfl ?_
      obtain ⟨hs, hF⟩ := ck_e hF
      refine x_imul (b := 164) dX12_passes_163 hs rfl ?_
      refine x_iload (i := 6) (b := 166) dX12_passes_164 rfl rfl ?_
      obtain ⟨hs, hF⟩ := ck_e hF
      refine x_iadd (b := 167) dX12_passes_166 hs rfl ?_
      obtain ⟨z2, e_z2, hF⟩ := lt_e hF
      refine x_eq (y := z2) e_z2 ?_
      refine x_istore (i := 7) (b := 169) (ls2 := [some (xr 12 0), some (xi x1), some (xi x2), some (xi x3), some (xi x4), none, some (xi x6), some (xi z2)]) dX12_passes_167 (Nat.le_of_ble_eq_true rfl) rfl rfl ?_
      refine x_aload_n (i := 0) (b := 170) dX12_passes_169 rfl rfl rfl ?_
      refine x_getL (j := 0) (t := (91, 0, true)) (b := 173) fk_X12_108 dX12_passes_170 rfl hL rfl rfl rfl ?_
      refine x_iload (i := 7) (b := 175) dX12_passes_173 rfl rfl ?_
      refine x_aload_n (i := 0) (b := 176) dX12_passes_175 rfl rfl rfl ?_
      refine x_getL (j := 0) (t := (101, 0, true)) (b := 179) fk_X12_145 dX12_passes_176 rfl hL rfl rfl rfl ?_
      refine x_iload (i := 6) (b := 181) dX12_passes_179 rfl rfl ?_
      obtain ⟨hs, hF⟩ := ck_e hF
      refine x_iald (v := gI h 101 0 x6) (b := 182) ak_101 dX12_passes_181 hs rfl rfl ?_
      refine x_iload (i := 4) (b := 184) dX12_passes_182 rfl rfl ?_
      refine x_icmp_ne (tgt := 191) (b := 187) dX12_passes_184 (by decide) rfl (fun hc => ?_) (fun hc => ?_)
      · replace hF := br_F hc hF
        refine x_aload_n (i := 0) (b := 192) dX12_passes_191 rfl rfl rfl ?_
        refine x_getL (j := 0) (t := (91, 0, true)) (b := 195) fk_X12_108 dX12_passes_192 rfl hL rfl rfl rfl ?_
        refine x_iload (i := 7) (b := 197) dX12_passes_195 rfl rfl ?_
        obtain ⟨hs, hF⟩ := ck_e hF
        refine x_iald (v := gI h 91 0 z2) (b := 198) ak_91 dX12_passes_197 hs rfl rfl ?_
        refine x_iconst (n := 1) (b := 199) dX12_passes_198 (by decide) rfl ?_
        obtain ⟨hs, hF⟩ := ck_e hF
        refine x_iadd (b := 200) dX12_passes_199 hs rfl ?_
        exact x_dp (ls2 := [some (xr 12 0), some (xi x1), some (xi x2), some (xi x3), some (xi x4), none, some (xi x6), some (xi z2)]) ⟨rfl, rfl, rfl, rfl, rfl, rfl, rfl, trivial⟩ (hr_200 x1 x2 x3 x4 x6 z2 ((gI h 91 0 z2) + 1) z2 h hL hF)
      · replace hF := br_T hc hF
        refine x_iconst (n := 0) (b := 188) dX12_passes_187 (by decide) rfl ?_
        refine x_goto (tgt := 200) dX12_passes_188 (by decide) ?_
        exact x_dp (ls2 := [some (xr 12 0), some (xi x1), some (xi x2), some (xi x3), some (xi x4), none, some (xi x6), some (xi z2)]) ⟨rfl, rfl, rfl, rfl, rfl, rfl, rfl, trivial⟩ (hr_200 x1 x2 x3 x4 x6 z2 0 z2 h hL hF)
    · replace hF := br_T hc hF
      refine x_goto (tgt := 234) dX12_passes_157 (by decide) ?_
      exact x_dp (ls2 := [some (xr 12 0), some (xi x1), some (xi x2), some (xi x3), some (xi x4), none, some (xi x6), none]) ⟨rfl, rfl, rfl, rfl, rfl, rfl, trivial⟩ (hr_234 x1 x2 x3 x4 x6 h hL hF)
set_option maxHeartbeats 4000000 in
set_option maxRecDepth 100000 in
theorem t_X12_passes_5 (E : xE) (d : Nat) (rec : Rk) (r : Int × Hp) (hr_234 : ∀ (x1 x2 x3 x4 x6 : Int) (h : Hp), Lay h → rec 6 [x1, x2, x3, x4, x6] h = some r → X E mX12_passes (d + 7) (0, 0) (0, 0) 234 [some (xr 12 0), some (xi x1), some (xi x2), some (xi x3), some (xi x4), none, some (xi x6), none] [] h (PoV r)) (x1 x2 x3 x4 x6 x7 y0 y1 : Int) (h : Hp) (hL : Lay h) (hF : b_X12_passes_5 rec x1 x2 x3 x4 x6 x7 y0 y1 h = some r) : X E mX12_passes (d + 7) (0, 0) (0, 0) 200 [some (xr 12 0), some (xi x1), some (xi x2), some (xi x3), some (xi x4), none, some (xi x6), some (xi x7)] [xi y0, xi y1, xr 91 0] h (PoV r) := by
  unfold b_X12_passes_5 at hF
  obtain ⟨hs, hF⟩ := ck_e hF
  have hs1 := hs
  refine x_iast (b := 201) ak_91 dX12_passes_200 hs1 rfl ?_
  obtain ⟨h1, e_h1, hF⟩ := lt_e hF
  refine x_hp (h2 := h1) e_h1 ?_
  replace hL : Lay h1 := by rw [← e_h1]; exact hL
  refine x_aload_n (i := 0) (b := 202) dX12_passes_201 rfl rfl rfl ?_
  refine x_getL (j := 0) (t := (91, 0, true)) (b := 205) fk_X12_108 dX12_passes_202 rfl hL rfl rfl rfl ?_
  refine x_iload (i := 7) (b := 207) dX12_passes_205 rfl rfl ?_
  obtain ⟨hs, hF⟩ := ck_e hF
  refine x_iald (v := gI h1 91 0 x7) (b := 208) ak_91 dX12_passes_207 hs rfl rfl ?_
  refine x_aload_n (i := 0) (b := 209) dX12_passes_208 rfl rfl rfl ?_
  refine x_getL (j := 0) (t := (77, 0, true)) (b := 212) fk_X12_62 dX12_passes_209 rfl hL rfl rfl rfl ?_
  refine x_iload (i := 6) (b := 214) dX12_passes_212 rfl rfl ?_
  obtain ⟨hs, hF⟩ := ck_e hF
  refine x_iald (v := gI h1 77 0 x6) (b := 215) ak_77 dX12_passes_214 hs rfl rfl ?_
  refine x_icmp_lt (tgt := 234) (b := 218) dX12_passes_215 (by decide) rfl (fun hc => ?_) (fun hc => ?_)
  · replace hF := br_T hc hF
    exact x_dp (ls2 := [some (xr 12 0), some (xi x1), some (xi x2), some (xi x3), some (xi x4), none, some (xi x6), none]) ⟨rfl, rfl, rfl, rfl, rfl, rfl, trivial⟩ (hr_234 x1 x2 x3 x4 x6 h1 hL hF)
  · replace hF := br_F hc hF
    refine x_aload_n (i := 0) (b := 219) dX12_passes_218 rfl rfl rfl ?_
    refine x_getI (v := gI h1 12 0 55) (b := 222) fk_X12_129 dX12_passes_219 (by decide) rfl rfl ?_
    refine x_iconst (n := 5) (b := 223) dX12_passes_222 (by decide) rfl ?_
    refine x_icmp_eq (tgt := 234) (b := 226) dX12_passes_223 (by decide) rfl (fun hc => ?_) (fun hc => ?_)
    · replace hF := br_T hc hF
      exact x_dp (ls2 := [some (xr 12 0), some (xi x1), some (xi x2), some (xi x3), some (xi x4), none, some (xi x6), none]) ⟨rfl, rfl, rfl, rfl, rfl, rfl, trivial⟩ (hr_234 x1 x2 x3 x4 x6 h1 hL hF)
    · replace hF := br_F hc hF
      refine x_aload_n (i := 0) (b := 227) dX12_passes_226 rfl rfl rfl ?_
      refine x_getL (j := 0) (t := (92, 0, true)) (b := 230) fk_X12_111 dX12_passes_227 rfl hL rfl rfl rfl ?_
      refine x_iload (i := 7) (b := 232) dX12_passes_230 rfl rfl ?_
      refine x_iconst (n := 1) (b := 233) dX12_passes_232 (by decide) rfl ?_
      obtain ⟨hs, hF⟩ := ck_e hF
      have hs1 := hs
      refine x_zast (b := 234) ak_92 dX12_passes_233 hs1 (by decide) rfl ?_
      obtain ⟨h2, e_h2, hF⟩ := lt_e hF
      refine x_hp (h2 := h2) e_h2 ?_
      replace hL : Lay h2 := by rw [← e_h2]; exact hL
      exact x_dp (ls2 := [some (xr 12 0), some (xi x1), some (xi x2), some (xi x3), some (xi x4), none, some (xi x6), none]) ⟨rfl, rfl, rfl, rfl, rfl, rfl, trivial⟩ (hr_234 x1 x2 x3 x4 x6 h2 hL hF)
set_option maxHeartbeats 4000000 in
set_option maxRecDepth 100000 in
theorem t_X12_passes_6 (E : xE) (d : Nat) (rec : Rk) (r : Int × Hp) (hr_139 : ∀ (x1 x2 x3 x4 x6 : Int) (h : Hp), Lay h → rec 4 [x1, x2, x3, x4, x6] h = some r → X E mX12_passes (d + 7) (0, 0) (0, 0) 139 [some (xr 12 0), some (xi x1), some (xi x2), some (xi x3), some (xi x4), none, some (xi x6), none] [] h (PoV r)) (x1 x2 x3 x4 x6 : Int) (h : Hp) (hL : Lay h) (hF : b_X12_passes_6 rec x1 x2 x3 x4 x6 h = some r) : X E mX12_passes (d + 7) (0, 0) (0, 0) 234 [some (xr 12 0), some (xi x1), some (xi x2), some (xi x3), some (xi x4), none, some (xi x6), none] [] h (PoV r) := by
  unfold b_X12_passes_6 at hF
  obtain ⟨hs, hF⟩ := ck_e hF
  refine x_iinc (i := 6) (b := 237) (ls2 := [some (xr 12 0), some (xi x1), some (xi x2), some (xi x3), some (xi x4), none, some (xi (x6 + 1)), none]) dX12_passes_234 rfl (Nat.le_of_ble_eq_true rfl) hs rfl rfl ?_
  refine x_goto (tgt := 139) dX12_passes_237 (by decide) ?_
  exact x_dp (ls2 := [some (xr 12 0), some (xi x1), some (xi x2), some (xi x3), some (xi x4), none, some (xi (x6 + 1)), none]) ⟨rfl, rfl, rfl, rfl, rfl, rfl, trivial⟩ (hr_139 x1 x2 x3 x4 (x6 + 1) h hL hF)
set_option maxHeartbeats 4000000 in
set_option maxRecDepth 100000 in
theorem t_X12_passes_7 (E : xE) (d : Nat) (rec : Rk) (r : Int × Hp) (x1 x2 x3 x4 : Int) (h : Hp) (hL : Lay h) (hF : b_X12_passes_7 rec x1 x2 x3 x4 h = some r) : X E mX12_passes (d + 7) (0, 0) (0, 0) 261 [some (xr 12 0), some (xi x1), some (xi x2), some (xi x3), some (xi x4), none, none, none] [] h (PoV r) := by
  unfold b_X12_passes_7 at hF
  refine x_aload_n (i := 0) (b := 262) dX12_passes_261 rfl rfl rfl ?_
  refine x_getL (j := 0) (t := (93, 0, true)) (b := 265) fk_X12_114 dX12_passes_262 rfl hL rfl rfl rfl ?_
  refine x_bipush (n := 60) (b := 267) dX12_passes_265 (by decide) rfl ?_
  refine x_iload_n (i := 1) (b := 268) dX12_passes_267 rfl rfl rfl ?_
  obtain ⟨hs, hF⟩ := ck_e hF
  refine x_imul (b := 269) dX12_passes_268 hs rfl ?_
  refine x_iload_n (i := 2) (b := 270) dX12_passes_269 rfl rfl rfl ?_
  obtain ⟨hs, hF⟩ := ck_e hF
  refine x_iadd (b := 271) dX12_passes_270 hs rfl ?_
  refine x_iload (i := 4) (b := 273) dX12_passes_271 rfl rfl ?_
  obtain ⟨hs, hF⟩ := ck_e hF
  have hs1 := hs
  refine x_iast (b := 274) ak_93 dX12_passes_273 hs1 rfl ?_
  obtain ⟨h1, e_h1, hF⟩ := lt_e hF
  refine x_hp (h2 := h1) e_h1 ?_
  replace hL : Lay h1 := by rw [← e_h1]; exact hL
  refine x_aload_n (i := 0) (b := 275) dX12_passes_274 rfl rfl rfl ?_
  refine x_getL (j := 0) (t := (94, 0, true)) (b := 278) fk_X12_117 dX12_passes_275 rfl hL rfl rfl rfl ?_
  refine x_bipush (n := 60) (b := 280) dX12_passes_278 (by decide) rfl ?_
  refine x_iload_n (i := 1) (b := 281) dX12_passes_280 rfl rfl rfl ?_
  obtain ⟨hs, hF⟩ := ck_e hF
  refine x_imul (b := 282) dX12_passes_281 hs rfl ?_
  refine x_iload_n (i := 2) (b := 283) dX12_passes_282 rfl rfl rfl ?_
  obtain ⟨hs, hF⟩ := ck_e hF
  refine x_iadd (b := 284) dX12_passes_283 hs rfl ?_
  refine x_aload_n (i := 0) (b := 285) dX12_passes_284 rfl rfl rfl ?_
  refine x_getI (v := gI h1 12 0 64) (b := 288) fk_X12_419 dX12_passes_285 (by decide) rfl rfl ?_
  obtain ⟨hs, hF⟩ := ck_e hF
  have hs1 := hs
  refine x_iast (b := 289) ak_94 dX12_passes_288 hs1 rfl ?_
  obtain ⟨h2, e_h2, hF⟩ := lt_e hF
  refine x_hp (h2 := h2) e_h2 ?_
  replace hL : Lay h2 := by rw [← e_h2]; exact hL
  refine x_aload_n (i := 0) (b := 290) dX12_passes_289 rfl rfl rfl ?_
  refine x_getL (j := 0) (t := (95, 0, true)) (b := 293) fk_X12_120 dX12_passes_290 rfl hL rfl rfl rfl ?_
  refine x_bipush (n := 60) (b := 295) dX12_passes_293 (by decide) rfl ?_
  refine x_iload_n (i := 1) (b := 296) dX12_passes_295 rfl rfl rfl ?_
  obtain ⟨hs, hF⟩ := ck_e hF
  refine x_imul (b := 297) dX12_passes_296 hs rfl ?_
  refine x_iload_n (i := 2) (b := 298) dX12_passes_297 rfl rfl rfl ?_
  obtain ⟨hs, hF⟩ := ck_e hF
  refine x_iadd (b := 299) dX12_passes_298 hs rfl ?_
  refine x_aload_n (i := 0) (b := 300) dX12_passes_299 rfl rfl rfl ?_
  refine x_getL (j := 0) (t := (85, 0, true)) (b := 303) fk_X12_90 dX12_passes_300 rfl hL rfl rfl rfl ?_
  refine x_iload_n (i := 1) (b := 304) dX12_passes_303 rfl rfl rfl ?_
  obtain ⟨hs, hF⟩ := ck_e hF
  refine x_iald (v := gI h2 85 0 x1) (b := 305) ak_85 dX12_passes_304 hs rfl rfl ?_
  obtain ⟨hs, hF⟩ := ck_e hF
  have hs1 := hs
  refine x_iast (b := 306) ak_95 dX12_passes_305 hs1 rfl ?_
  obtain ⟨h3, e_h3, hF⟩ := lt_e hF
  refine x_hp (h2 := h3) e_h3 ?_
  replace hL : Lay h3 := by rw [← e_h3]; exact hL
  refine x_aload_n (i := 0) (b := 307) dX12_passes_306 rfl rfl rfl ?_
  refine x_getL (j := 0) (t := (96, 0, true)) (b := 310) fk_X12_123 dX12_passes_307 rfl hL rfl rfl rfl ?_
  refine x_bipush (n := 60) (b := 312) dX12_passes_310 (by decide) rfl ?_
  refine x_iload_n (i := 1) (b := 313) dX12_passes_312 rfl rfl rfl ?_
  obtain ⟨hs, hF⟩ := ck_e hF
  refine x_imul (b := 314) dX12_passes_313 hs rfl ?_
  refine x_iload_n (i := 2) (b := 315) dX12_passes_314 rfl rfl rfl ?_
  obtain ⟨hs, hF⟩ := ck_e hF
  refine x_iadd (b := 316) dX12_passes_315 hs rfl ?_
  refine x_iload_n (i := 3) (b := 317) dX12_passes_316 rfl rfl rfl ?_
  obtain ⟨hs, hF⟩ := ck_e hF
  have hs1 := hs
  refine x_iast (b := 318) ak_96 dX12_passes_317 hs1 rfl ?_
  obtain ⟨h4, e_h4, hF⟩ := lt_e hF
  refine x_hp (h2 := h4) e_h4 ?_
  replace hL : Lay h4 := by rw [← e_h4]; exact hL
  refine x_aload_n (i := 0) (b := 319) dX12_passes_318 rfl rfl rfl ?_
  refine x_getL (j := 0) (t := (97, 0, true)) (b := 322) fk_X12_126 dX12_passes_319 rfl hL rfl rfl rfl ?_
  refine x_bipush (n := 60) (b := 324) dX12_passes_322 (by decide) rfl ?_
  refine x_iload_n (i := 1) (b := 325) dX12_passes_324 rfl rfl rfl ?_
  obtain ⟨hs, hF⟩ := ck_e hF
  refine x_imul (b := 326) dX12_passes_325 hs rfl ?_
  refine x_iload_n (i := 2) (b := 327) dX12_passes_326 rfl rfl rfl ?_
  obtain ⟨hs, hF⟩ := ck_e hF
  refine x_iadd (b := 328) dX12_passes_327 hs rfl ?_
  refine x_aload_n (i := 0) (b := 329) dX12_passes_328 rfl rfl rfl ?_
  refine x_getL (j := 0) (t := (89, 0, true)) (b := 332) fk_X12_102 dX12_passes_329 rfl hL rfl rfl rfl ?_
  refine x_iload_n (i := 1) (b := 333) dX12_passes_332 rfl rfl rfl ?_
  obtain ⟨hs, hF⟩ := ck_e hF
  refine x_iald (v := gI h4 89 0 x1) (b := 334) ak_89 dX12_passes_333 hs rfl rfl ?_
  obtain ⟨hs, hF⟩ := ck_e hF
  have hs1 := hs
  refine x_iast (b := 335) ak_97 dX12_passes_334 hs1 rfl ?_
  obtain ⟨h5, e_h5, hF⟩ := lt_e hF
  refine x_hp (h2 := h5) e_h5 ?_
  replace hL : Lay h5 := by rw [← e_h5]; exact hL
  refine x_aload_n (i := 0) (b := 336) dX12_passes_335 rfl rfl rfl ?_
  refine x_getL (j := 0) (t := (84, 0, true)) (b := 339) fk_X12_87 dX12_passes_336 rfl hL rfl rfl rfl ?_
  refine x_iload_n (i := 1) (b := 340) dX12_passes_339 rfl rfl rfl ?_
  refine x_dup2 (b := 341) dX12_passes_340 rfl rfl rfl ?_
  obtain ⟨hs, hF⟩ := ck_e hF
  refine x_iald (v := gI h5 84 0 x1) (b := 342) ak_84 dX12_passes_341 hs rfl rfl ?_
  refine x_iconst (n := 1) (b := 343) dX12_passes_342 (by decide) rfl ?_
  obtain ⟨hs, hF⟩ := ck_e hF
  refine x_iadd (b := 344) dX12_passes_343 hs rfl ?_
  obtain ⟨hs, hF⟩ := ck_e hF
  have hs1 := hs
  refine x_iast (b := 345) ak_84 dX12_passes_344 hs1 rfl ?_
  obtain ⟨h6, e_h6, hF⟩ := lt_e hF
  refine x_hp (h2 := h6) e_h6 ?_
  replace hL : Lay h6 := by rw [← e_h6]; exact hL
  refine x_aload_n (i := 0) (b := 346) dX12_passes_345 rfl rfl rfl ?_
  refine x_getL (j := 0) (t := (88, 0, true)) (b := 349) fk_X12_99 dX12_passes_346 rfl hL rfl rfl rfl ?_
  refine x_iload_n (i := 1) (b := 350) dX12_passes_349 rfl rfl rfl ?_
  obtain ⟨hs, hF⟩ := ck_e hF
  refine x_iald (v := gI h6 88 0 x1) (b := 351) ak_88 dX12_passes_350 hs rfl rfl ?_
  refine x_iconst (n := (-1)) (b := 352) dX12_passes_351 (by decide) rfl ?_
  refine x_icmp_ne (tgt := 382) (b := 355) dX12_passes_352 (by decide) rfl (fun hc => ?_) (fun hc => ?_)
  · replace hF := br_F hc hF
    refine x_return dX12_passes_382 rfl ⟨Nat.le_refl _, Nat.le_refl _⟩ ?_
    cases hF
    exact ⟨rfl, rfl, hL⟩
  · replace hF := br_T hc hF
    refine x_aload_n (i := 0) (b := 356) dX12_passes_355 rfl rfl rfl ?_
    refine x_getL (j := 0) (t := (85, 0, true)) (b := 359) fk_X12_90 dX12_passes_356 rfl hL rfl rfl rfl ?_
    refine x_iload_n (i := 1) (b := 360) dX12_passes_359 rfl rfl rfl ?_
    obtain ⟨hs, hF⟩ := ck_e hF
    refine x_iald (v := gI h6 85 0 x1) (b := 361) ak_85 dX12_passes_360 hs rfl rfl ?_
    refine x_aload_n (i := 0) (b := 362) dX12_passes_361 rfl rfl rfl ?_
    refine x_getL (j := 0) (t := (61, 0, true)) (b := 365) fk_X12_13 dX12_passes_362 rfl hL rfl rfl rfl ?_
    refine x_iconst (n := 4) (b := 366) dX12_passes_365 (by decide) rfl ?_
    obtain ⟨hs, hF⟩ := ck_e hF
    refine x_iald (v := gI h6 61 0 4) (b := 367) ak_61 dX12_passes_366 hs rfl rfl ?_
    refine x_icmp_ne (tgt := 382) (b := 370) dX12_passes_367 (by decide) rfl (fun hc => ?_) (fun hc => ?_)
    · replace hF := br_F hc hF
      refine x_return dX12_passes_382 rfl ⟨Nat.le_refl _, Nat.le_refl _⟩ ?_
      cases hF
      exact ⟨rfl, rfl, hL⟩
    · replace hF := br_T hc hF
      refine x_aload_n (i := 0) (b := 371) dX12_passes_370 rfl rfl rfl ?_
      refine x_getL (j := 0) (t := (88, 0, true)) (b := 374) fk_X12_99 dX12_passes_371 rfl hL rfl rfl rfl ?_
      refine x_iload_n (i := 1) (b := 375) dX12_passes_374 rfl rfl rfl ?_
      refine x_aload_n (i := 0) (b := 376) dX12_passes_375 rfl rfl rfl ?_
      refine x_getL (j := 0) (t := (84, 0, true)) (b := 379) fk_X12_87 dX12_passes_376 rfl hL rfl rfl rfl ?_
      refine x_iload_n (i := 1) (b := 380) dX12_passes_379 rfl rfl rfl ?_
      obtain ⟨hs, hF⟩ := ck_e hF
      refine x_iald (v := gI h6 84 0 x1) (b := 381) ak_84 dX12_passes_380 hs rfl rfl ?_
      obtain ⟨hs, hF⟩ := ck_e hF
      have hs1 := hs
      refine x_iast (b := 382) ak_88 dX12_passes_381 hs1 rfl ?_
      obtain ⟨h7, e_h7, hF⟩ := lt_e hF
      refine x_hp (h2 := h7) e_h7 ?_
      replace hL : Lay h7 := by rw [← e_h7]; exact hL
      refine x_return dX12_passes_382 rfl ⟨Nat.le_refl _, Nat.le_refl _⟩ ?_
      cases hF
      exact ⟨rfl, rfl, hL⟩
set_option maxHeartbeats 4000000 in
set_option maxRecDepth 100000 in
theorem u_X12_passes (E : xE) (d : Nat) (r : Int × Hp) : ∀ n : Nat, (∀ (x1 : Int) (h : Hp), Lay h → g_X12_passes n 0 [x1] h = some r → X E mX12_passes (d + 7) (0, 0) (0, 0) 0 [some (xr 12 0), some (xi x1), none, none, none, none, none, none] [] h (PoV r)) ∧ (∀ (x1 x2 x3 : Int) (h : Hp), Lay h → g_X12_passes n 1 [x1, x2, x3] h = some r → X E mX12_passes (d + 7) (0, 0) (0, 0) 79 [some (xr 12 0), some (xi x1), some (xi x2), some (xi x3), none, none, none, none] [] h (PoV r)) ∧ (∀ (x1 x2 x3 x4 : Int) (h : Hp), Lay h → g_X12_passes n 2 [x1, x2, x3, x4] h = some r → X E mX12_passes (d + 7) (0, 0) (0, 0) 98 [some (xr 12 0), some (xi x1), some (xi x2), some (xi x3), some (xi x4), none, none, none] [] h (PoV r)) ∧ (∀ (x1 x2 x3 x4 : Int) (h : Hp), Lay h → g_X12_passes n 3 [x1, x2, x3, x4] h = some r → X E mX12_passes (d + 7) (0, 0) (0, 0) 136 [some (xr 12 0), some (xi x1), some (xi x2), some (xi x3), some (xi x4), none, none, none] [] h (PoV r)) ∧ (∀ (x1 x2 x3 x4 x6 : Int) (h : Hp), Lay h → g_X12_passes n 4 [x1, x2, x3, x4, x6] h = some r → X E mX12_passes (d + 7) (0, 0) (0, 0) 139 [some (xr 12 0), some (xi x1), some (xi x2), some (xi x3), some (xi x4), none, some (xi x6), none] [] h (PoV r)) ∧ (∀ (x1 x2 x3 x4 x6 x7 y0 y1 : Int) (h : Hp), Lay h → g_X12_passes n 5 [x1, x2, x3, x4, x6, x7, y0, y1] h = some r → X E mX12_passes (d + 7) (0, 0) (0, 0) 200 [some (xr 12 0), some (xi x1), some (xi x2), some (xi x3), some (xi x4), none, some (xi x6), some (xi x7)] [xi y0, xi y1, xr 91 0] h (PoV r)) ∧ (∀ (x1 x2 x3 x4 x6 : Int) (h : Hp), Lay h → g_X12_passes n 6 [x1, x2, x3, x4, x6] h = some r → X E mX12_passes (d + 7) (0, 0) (0, 0) 234 [some (xr 12 0), some (xi x1), some (xi x2), some (xi x3), some (xi x4), none, some (xi x6), none] [] h (PoV r)) ∧ (∀ (x1 x2 x3 x4 : Int) (h : Hp), Lay h → g_X12_passes n 7 [x1, x2, x3, x4] h = some r → X E mX12_passes (d + 7) (0, 0) (0, 0) 261 [some (xr 12 0), some (xi x1), some (xi x2), some (xi x3), some (xi x4), none, none, none] [] h (PoV r)) := by
  intro n
  induction n with
  | zero => exact ⟨fun _ _ _ hF => no_e (r := r) hF, fun _ _ _ _ _ hF => no_e (r := r) hF, fun _ _ _ _ _ _ hF => no_e (r := r) hF, fun _ _ _ _ _ _ hF => no_e (r := r) hF, fun _ _ _ _ _ _ _ hF => no_e (r := r) hF, fun _ _ _ _ _ _ _ _ _ _ hF => no_e (r := r) hF, fun _ _ _ _ _ _ _ hF => no_e (r := r) hF, fun _ _ _ _ _ _ hF => no_e (r := r) hF⟩
  | succ n ih => exact ⟨fun x1 h hL hF => t_X12_passes_0 E d (g_X12_passes n) r ih.2.1 x1 h hL hF, fun x1 x2 x3 h hL hF => t_X12_passes_1 E d (g_X12_passes n) r ih.2.2.1 x1 x2 x3 h hL hF, fun x1 x2 x3 x4 h hL hF => t_X12_passes_2 E d (g_X12_passes n) r ih.2.2.2.1 x1 x2 x3 x4 h hL hF, fun x1 x2 x3 x4 h hL hF => t_X12_passes_3 E d (g_X12_passes n) r ih.2.2.2.2.1 x1 x2 x3 x4 h hL hF, fun x1 x2 x3 x4 x6 h hL hF => t_X12_passes_4 E d (g_X12_passes n) r ih.2.2.2.2.2.1 ih.2.2.2.2.2.2.1 ih.2.2.2.2.2.2.2 x1 x2 x3 x4 x6 h hL hF, fun x1 x2 x3 x4 x6 x7 y0 y1 h hL hF => t_X12_passes_5 E d (g_X12_passes n) r ih.2.2.2.2.2.2.1 x1 x2 x3 x4 x6 x7 y0 y1 h hL hF, fun x1 x2 x3 x4 x6 h hL hF => t_X12_passes_6 E d (g_X12_passes n) r ih.2.2.2.2.1 x1 x2 x3 x4 x6 h hL hF, fun x1 x2 x3 x4 h hL hF => t_X12_passes_7 E d (g_X12_passes n) r  x1 x2 x3 x4 h hL hF⟩
theorem c_X12_passes (d : Nat) (x1 : Int) (h : Hp) (r : Int × Hp) (hL : Lay h) (hF : f_X12_passes x1 h = some r) : Sp mX12_passes (d + 7) (0, 0) [xr 12 0, xi x1] h (PoV r) :=
  sp_of (by decide) rfl (Nat.le_of_ble_eq_true rfl) (ls := [some (xr 12 0), some (xi x1), none, none, none, none, none, none]) rfl (fun E _ => (u_X12_passes E d r FU).1 x1 h hL hF)
theorem dX12_tried_0 : decode cX12_tried 0 = .ok (.aload_n 0, 1) := by decide +kernel
theorem dX12_tried_1 : decode cX12_tried 1 = .ok (.iconst 0, 1) := by decide +kernel
theorem dX12_tried_2 : decode cX12_tried 2 = .ok (.putfield 194, 3) := by decide +kernel
theorem dX12_tried_5 : decode cX12_tried 5 = .ok (.iload_n 1, 1) := by decide +kernel
theorem dX12_tried_6 : decode cX12_tried 6 = .ok (.iconst 3, 1) := by decide +kernel
theorem dX12_tried_7 : decode cX12_tried 7 = .ok (.if_icmp .ne 20, 3) := by decide +kernel
theorem dX12_tried_10 : decode cX12_tried 10 = .ok (.aload_n 0, 1) := by decide +kernel
theorem dX12_tried_11 : decode cX12_tried 11 = .ok (.iload_n 2, 1) := by decide +kernel
theorem dX12_tried_12 : decode cX12_tried 12 = .ok (.invokevirtual 452, 3) := by decide +kernel
theorem dX12_tried_15 : decode cX12_tried 15 = .ok (.iconst (-1), 1) := by decide +kernel
theorem dX12_tried_16 : decode cX12_tried 16 = .ok (.if_icmp .eq 7, 3) := by decide +kernel
theorem dX12_tried_19 : decode cX12_tried 19 = .ok (.iconst 1, 1) := by decide +kernel
theorem dX12_tried_20 : decode cX12_tried 20 = .ok (.goto 25, 3) := by decide +kernel
theorem dX12_tried_23 : decode cX12_tried 23 = .ok (.iconst 0, 1) := by decide +kernel
theorem dX12_tried_24 : decode cX12_tried 24 = .ok (.goto 21, 3) := by decide +kernel
theorem dX12_tried_27 : decode cX12_tried 27 = .ok (.iload_n 1, 1) := by decide +kernel
theorem dX12_tried_28 : decode cX12_tried 28 = .ok (.ifCond .lt 16, 3) := by decide +kernel
theorem dX12_tried_31 : decode cX12_tried 31 = .ok (.iload_n 1, 1) := by decide +kernel
theorem dX12_tried_32 : decode cX12_tried 32 = .ok (.iconst 5, 1) := by decide +kernel
theorem dX12_tried_33 : decode cX12_tried 33 = .ok (.if_icmp .gt 11, 3) := by decide +kernel
theorem dX12_tried_36 : decode cX12_tried 36 = .ok (.iload_n 2, 1) := by decide +kernel
theorem dX12_tried_37 : decode cX12_tried 37 = .ok (.ifCond .ne 7, 3) := by decide +kernel
theorem dX12_tried_40 : decode cX12_tried 40 = .ok (.iconst 1, 1) := by decide +kernel
theorem dX12_tried_41 : decode cX12_tried 41 = .ok (.goto 4, 3) := by decide +kernel
theorem dX12_tried_44 : decode cX12_tried 44 = .ok (.iconst 0, 1) := by decide +kernel
theorem dX12_tried_45 : decode cX12_tried 45 = .ok (.istore 4, 2) := by decide +kernel
theorem dX12_tried_47 : decode cX12_tried 47 = .ok (.iload 4, 2) := by decide +kernel
theorem dX12_tried_49 : decode cX12_tried 49 = .ok (.ifCond .eq 26, 3) := by decide +kernel
theorem dX12_tried_52 : decode cX12_tried 52 = .ok (.iload_n 3, 1) := by decide +kernel
theorem dX12_tried_53 : decode cX12_tried 53 = .ok (.ifCond .lt 22, 3) := by decide +kernel
theorem dX12_tried_56 : decode cX12_tried 56 = .ok (.iload_n 3, 1) := by decide +kernel
theorem dX12_tried_57 : decode cX12_tried 57 = .ok (.bipush 60, 2) := by decide +kernel
theorem dX12_tried_59 : decode cX12_tried 59 = .ok (.if_icmp .gt 16, 3) := by decide +kernel
theorem dX12_tried_62 : decode cX12_tried 62 = .ok (.aload_n 0, 1) := by decide +kernel
theorem dX12_tried_63 : decode cX12_tried 63 = .ok (.getfield 87, 3) := by decide +kernel
theorem dX12_tried_66 : decode cX12_tried 66 = .ok (.iconst 0, 1) := by decide +kernel
theorem dX12_tried_67 : decode cX12_tried 67 = .ok (.iaload, 1) := by decide +kernel
theorem dX12_tried_68 : decode cX12_tried 68 = .ok (.iload_n 3, 1) := by decide +kernel
theorem dX12_tried_69 : decode cX12_tried 69 = .ok (.iadd, 1) := by decide +kernel
theorem dX12_tried_70 : decode cX12_tried 70 = .ok (.bipush 60, 2) := by decide +kernel
theorem dX12_tried_72 : decode cX12_tried 72 = .ok (.if_icmp .le 5, 3) := by decide +kernel
theorem dX12_tried_75 : decode cX12_tried 75 = .ok (.iconst (-1), 1) := by decide +kernel
theorem dX12_tried_76 : decode cX12_tried 76 = .ok (.ireturn, 1) := by decide +kernel
theorem dX12_tried_77 : decode cX12_tried 77 = .ok (.aload_n 0, 1) := by decide +kernel
theorem dX12_tried_78 : decode cX12_tried 78 = .ok (.invokevirtual 455, 3) := by decide +kernel
theorem dX12_tried_81 : decode cX12_tried 81 = .ok (.aload_n 0, 1) := by decide +kernel
theorem dX12_tried_82 : decode cX12_tried 82 = .ok (.iload_n 1, 1) := by decide +kernel
theorem dX12_tried_83 : decode cX12_tried 83 = .ok (.putfield 129, 3) := by decide +kernel
theorem dX12_tried_86 : decode cX12_tried 86 = .ok (.aload_n 0, 1) := by decide +kernel
theorem dX12_tried_87 : decode cX12_tried 87 = .ok (.iload_n 1, 1) := by decide +kernel
theorem dX12_tried_88 : decode cX12_tried 88 = .ok (.iconst 3, 1) := by decide +kernel
theorem dX12_tried_89 : decode cX12_tried 89 = .ok (.if_icmp .ne 11, 3) := by decide +kernel
theorem dX12_tried_92 : decode cX12_tried 92 = .ok (.aload_n 0, 1) := by decide +kernel
theorem dX12_tried_93 : decode cX12_tried 93 = .ok (.iload_n 2, 1) := by decide +kernel
theorem dX12_tried_94 : decode cX12_tried 94 = .ok (.invokevirtual 452, 3) := by decide +kernel
theorem dX12_tried_97 : decode cX12_tried 97 = .ok (.goto 4, 3) := by decide +kernel
theorem dX12_tried_100 : decode cX12_tried 100 = .ok (.iconst (-1), 1) := by decide +kernel
theorem dX12_tried_101 : decode cX12_tried 101 = .ok (.putfield 132, 3) := by decide +kernel
theorem dX12_tried_104 : decode cX12_tried 104 = .ok (.aload_n 0, 1) := by decide +kernel
theorem dX12_tried_105 : decode cX12_tried 105 = .ok (.iconst 1, 1) := by decide +kernel
theorem dX12_tried_106 : decode cX12_tried 106 = .ok (.iconst 0, 1) := by decide +kernel
theorem dX12_tried_107 : decode cX12_tried 107 = .ok (.invokevirtual 468, 3) := by decide +kernel
theorem dX12_tried_110 : decode cX12_tried 110 = .ok (.iconst 0, 1) := by decide +kernel
theorem dX12_tried_111 : decode cX12_tried 111 = .ok (.istore 5, 2) := by decide +kernel
theorem dX12_tried_113 : decode cX12_tried 113 = .ok (.iload 5, 2) := by decide +kernel
theorem dX12_tried_115 : decode cX12_tried 115 = .ok (.iload_n 3, 1) := by decide +kernel
theorem dX12_tried_116 : decode cX12_tried 116 = .ok (.if_icmp .ge 14, 3) := by decide +kernel
theorem dX12_tried_119 : decode cX12_tried 119 = .ok (.aload_n 0, 1) := by decide +kernel
theorem dX12_tried_120 : decode cX12_tried 120 = .ok (.iconst 1, 1) := by decide +kernel
theorem dX12_tried_121 : decode cX12_tried 121 = .ok (.invokevirtual 465, 3) := by decide +kernel
theorem dX12_tried_124 : decode cX12_tried 124 = .ok (.iinc 5 1, 3) := by decide +kernel
theorem dX12_tried_127 : decode cX12_tried 127 = .ok (.goto (-14), 3) := by decide +kernel
theorem dX12_tried_130 : decode cX12_tried 130 = .ok (.aload_n 0, 1) := by decide +kernel
theorem dX12_tried_131 : decode cX12_tried 131 = .ok (.getfield 90, 3) := by decide +kernel
theorem dX12_tried_134 : decode cX12_tried 134 = .ok (.iconst 1, 1) := by decide +kernel
theorem dX12_tried_135 : decode cX12_tried 135 = .ok (.iaload, 1) := by decide +kernel
theorem dX12_tried_136 : decode cX12_tried 136 = .ok (.ireturn, 1) := by decide +kernel
noncomputable def b_X12_tried_0 (rec : Rk) (x1 x2 x3 : Int) (h : Hp) : Option (Int × Hp) :=
  lt (sI h 12 0 0 0) fun h1 =>
  if x1 = 3 then (
    bd (f_X12_slot x2 h1) fun v2 h3 =>
    if v2 = (-1) then (
      rec 2 [x1, x2, x3, 0] h3
    ) else (
      rec 2 [x1, x2, x3, 1] h3
    )
  ) else (
    if x1 < 0 then (
      rec 1 [x1, x2, x3] h1
    ) else (
      if 5 < x1 then (
        rec 1 [x1, x2, x3] h1
      ) else (
        if x2 = 0 then (
          rec 2 [x1, x2, x3, 1] h1
        ) else (
          rec 1 [x1, x2, x3] h1
        )
      )
    )
  )
noncomputable def b_X12_tried_1 (rec : Rk) (x1 x2 x3 : Int) (h : Hp) : Option (Int × Hp) :=
  rec 2 [x1, x2, x3, 0] h
noncomputable def b_X12_tried_2 (rec : Rk) (x1 x2 x3 y0 : Int) (h : Hp) : Option (Int × Hp) :=
  if y0 = 0 then (
    some ((-1), h)
  ) else (
    if x3 < 0 then (
      some ((-1), h)
    ) else (
      if 60 < x3 then (
        some ((-1), h)
      ) else (
        ck (0 ≤ (0 : Int) ∧ (0 : Int) < 23) <|
        ck (-2147483648 ≤ (gI h 84 0 0) + x3 ∧ (gI h 84 0 0) + x3 < 2147483648) <|
        if ((gI h 84 0 0) + x3) ≤ 60 then (
          bd (f_X12_plain h) fun v1 h2 =>
          lt (sI h2 12 0 55 x1) fun h3 =>
          if x1 = 3 then (
            bd (f_X12_slot x2 h3) fun v4 h5 =>
            rec 3 [x3, v4] h5
          ) else (
            rec 3 [x3, (-1)] h3
          )
        ) else (
          some ((-1), h)
        )
      )
    )
  )
noncomputable def b_X12_tried_3 (rec : Rk) (x3 y0 : Int) (h : Hp) : Option (Int × Hp) :=
  lt (sI h 12 0 56 y0) fun h1 =>
  bd (f_X12_copies 1 0 h1) fun v2 h3 =>
  rec 4 [x3, 0] h3
noncomputable def b_X12_tried_4 (rec : Rk) (x3 x5 : Int) (h : Hp) : Option (Int × Hp) :=
  if x3 ≤ x5 then (
    ck (0 ≤ (1 : Int) ∧ (1 : Int) < 23) <|
    some (gI h 85 0 1, h)
  ) else (
    bd (f_X12_passes 1 h) fun v1 h2 =>
    ck (-2147483648 ≤ x5 + 1 ∧ x5 + 1 < 2147483648) <|
    rec 4 [x3, x5 + 1] h2
  )
noncomputable def g_X12_tried (n : Nat) : Rk := Nat.rec (motive := fun _ => Rk) (fun _ _ _ => none) (fun _ rec k l h => if k = 0 then b_X12_tried_0 rec (l.getD 0 0) (l.getD 1 0) (l.getD 2 0) h else if k = 1 then b_X12_tried_1 rec (l.getD 0 0) (l.getD 1 0) (l.getD 2 0) h else if k = 2 then b_X12_tried_2 rec (l.getD 0 0) (l.getD 1 0) (l.getD 2 0) (l.getD 3 0) h else if k = 3 then b_X12_tried_3 rec (l.getD 0 0) (l.getD 1 0) h else if k = 4 then b_X12_tried_4 rec (l.getD 0 0) (l.getD 1 0) h else none) n
noncomputable def f_X12_tried (x1 x2 x3 : Int) (h : Hp) : Option (Int × Hp) := g_X12_tried FU 0 [x1, x2, x3] h
set_option maxHeartbeats 4000000 in
set_option maxRecDepth 100000 in
theorem t_X12_tried_0 (E : xE) (d : Nat) (rec : Rk) (r : Int × Hp) (hr_44 : ∀ (x1 x2 x3 : Int) (h : Hp), Lay h → rec 1 [x1, x2, x3] h = some r → X E mX12_tried (d + 8) (0, 0) (0, 0) 44 [some (xr 12 0), some (xi x1), some (xi x2), some (xi x3), none, none] [] h (PoI r)) (hr_45 : ∀ (x1 x2 x3 y0 : Int) (h : Hp), Lay h → rec 2 [x1, x2, x3, y0] h = some r → X E mX12_tried (d + 8) (0, 0) (0, 0) 45 [some (xr 12 0), some (xi x1), some (xi x2), some (xi x3), none, none] [xi y0] h (PoI r)) (x1 x2 x3 : Int) (h : Hp) (hL : Lay h) (hF : b_X12_tried_0 rec x1 x2 x3 h = some r) : X E mX12_tried (d + 8) (0, 0) (0, 0) 0 [some (xr 12 0), some (xi x1), some (xi x2), some (xi x3), none, none] [] h (PoI r) := by
  unfold b_X12_tried_0 at hF
  refine x_aload_n (i := 0) (b := 1) dX12_tried_0 rfl rfl rfl ?_
  refine x_iconst (n := 0) (b := 2) dX12_tried_1 (by decide) rfl ?_
  refine x_putI (b := 5) fk_X12_194 dX12_tried_2 rfl rfl 0 rfl ?_
  obtain ⟨h1, e_h1, hF⟩ := lt_e hF
  refine x_hp (h2 := h1) e_h1 ?_
  replace hL : Lay h1 := by rw [← e_h1]; exact hL
  refine x_iload_n (i := 1) (b := 6) dX12_tried_5 rfl rfl rfl ?_
  refine x_iconst (n := 3) (b := 7) dX12_tried_6 (by decide) rfl ?_
  refine x_icmp_ne (tgt := 27) (b := 10) dX12_tried_7 (by decide) rfl (fun hc => ?_) (fun hc => ?_)
  · replace hF := br_F hc hF
    refine x_iload_n (i := 1) (b := 28) dX12_tried_27 rfl rfl rfl ?_
    refine x_if_lt (tgt := 44) (b := 31) dX12_tried_28 (by decide) rfl (fun hc => ?_) (fun hc => ?_)
    · replace hF := br_T hc hF
      exact x_dp (ls2 := [some (xr 12 0), some (xi x1), some (xi x2), some (xi x3), none, none]) ⟨rfl, rfl, rfl, rfl, trivial⟩ (hr_44 x1 x2 x3 h1 hL hF)
    · replace hF := br_F hc hF
      refine x_iload_n (i := 1) (b := 32) dX12_tried_31 rfl rfl rfl ?_
      refine x_iconst (n := 5) (b := 33) dX12_tried_32 (by decide) rfl ?_
      refine x_icmp_gt (tgt := 44) (b := 36) dX12_tried_33 (by decide) rfl (fun hc => ?_) (fun hc => ?_)
      · replace hF := br_T hc hF
        exact x_dp (ls2 := [some (xr 12 0), some (xi x1), some (xi x2), some (xi x3), none, none]) ⟨rfl, rfl, rfl, rfl, trivial⟩ (hr_44 x1 x2 x3 h1 hL hF)
      · replace hF := br_F hc hF
        refine x_iload_n (i := 2) (b := 37) dX12_tried_36 rfl rfl rfl ?_
        refine x_if_ne (tgt := 44) (b := 40) dX12_tried_37 (by decide) rfl (fun hc => ?_) (fun hc => ?_)
        · replace hF := br_F hc hF
          exact x_dp (ls2 := [some (xr 12 0), some (xi x1), some (xi x2), some (xi x3), none, none]) ⟨rfl, rfl, rfl, rfl, trivial⟩ (hr_44 x1 x2 x3 h1 hL hF)
        · replace hF := br_T hc hF
          refine x_iconst (n := 1) (b := 41) dX12_tried_40 (by decide) rfl ?_
          refine x_goto (tgt := 45) dX12_tried_41 (by decide) ?_
          exact x_dp (ls2 := [some (xr 12 0), some (xi x1), some (xi x2), some (xi x3), none, none]) ⟨rfl, rfl, rfl, rfl, trivial⟩ (hr_45 x1 x2 x3 1 h1 hL hF)
  · replace hF := br_T hc hF
    refine x_aload_n (i := 0) (b := 11) dX12_tried_10 rfl rfl rfl ?_
    refine x_iload_n (i := 2) (b := 12) dX12_tried_11 rfl rfl rfl ?_
    obtain ⟨v2, h3, hq, hF⟩ := bd_e hF
    refine x_callV (as := [xi x2]) (rest := []) (b := 15) (c_X12_slot (d + 6) x2 h1 _ hL hq) dX12_tried_12 cw_X12_452 ⟨_, _, rfl, Nat.le_of_ble_eq_true rfl⟩ rfl rfl (Nat.le_of_ble_eq_true rfl) ⟨Nat.le_refl _, Nat.le_refl _⟩ rfl (fun rv hh hp _ => ?_)
    obtain ⟨rfl, rfl, hL⟩ := hp
    refine x_iconst (n := (-1)) (b := 16) dX12_tried_15 (by decide) rfl ?_
    refine x_icmp_eq (tgt := 23) (b := 19) dX12_tried_16 (by decide) rfl (fun hc => ?_) (fun hc => ?_)
    · replace hF := br_T hc hF
      refine x_iconst (n := 0) (b := 24) dX12_tried_23 (by decide) rfl ?_
      refine x_goto (tgt := 45) dX12_tried_24 (by decide) ?_
      exact x_dp (ls2 := [some (xr 12 0), some (xi x1), some (xi x2), some (xi x3), none, none]) ⟨rfl, rfl, rfl, rfl, trivial⟩ (hr_45 x1 x2 x3 0 h3 hL hF)
    · replace hF := br_F hc hF
      refine x_iconst (n := 1) (b := 20) dX12_tried_19 (by decide) rfl ?_
      refine x_goto (tgt := 45) dX12_tried_20 (by decide) ?_
      exact x_dp (ls2 := [some (xr 12 0), some (xi x1), some (xi x2), some (xi x3), none, none]) ⟨rfl, rfl, rfl, rfl, trivial⟩ (hr_45 x1 x2 x3 1 h3 hL hF)
set_option maxHeartbeats 4000000 in
set_option maxRecDepth 100000 in
theorem t_X12_tried_1 (E : xE) (d : Nat) (rec : Rk) (r : Int × Hp) (hr_45 : ∀ (x1 x2 x3 y0 : Int) (h : Hp), Lay h → rec 2 [x1, x2, x3, y0] h = some r → X E mX12_tried (d + 8) (0, 0) (0, 0) 45 [some (xr 12 0), some (xi x1), some (xi x2), some (xi x3), none, none] [xi y0] h (PoI r)) (x1 x2 x3 : Int) (h : Hp) (hL : Lay h) (hF : b_X12_tried_1 rec x1 x2 x3 h = some r) : X E mX12_tried (d + 8) (0, 0) (0, 0) 44 [some (xr 12 0), some (xi x1), some (xi x2), some (xi x3), none, none] [] h (PoI r) := by
  unfold b_X12_tried_1 at hF
  refine x_iconst (n := 0) (b := 45) dX12_tried_44 (by decide) rfl ?_
  exact x_dp (ls2 := [some (xr 12 0), some (xi x1), some (xi x2), some (xi x3), none, none]) ⟨rfl, rfl, rfl, rfl, trivial⟩ (hr_45 x1 x2 x3 0 h hL hF)
set_option maxHeartbeats 4000000 in
set_option maxRecDepth 100000 in
theorem t_X12_tried_2 (E : xE) (d : Nat) (rec : Rk) (r : Int × Hp) (hr_101 : ∀ (x3 y0 : Int) (h : Hp), Lay h → rec 3 [x3, y0] h = some r → X E mX12_tried (d + 8) (0, 0) (0, 0) 101 [some (xr 12 0), none, none, some (xi x3), none, none] [xi y0, xr 12 0] h (PoI r)) (x1 x2 x3 y0 : Int) (h : Hp) (hL : Lay h) (hF : b_X12_tried_2 rec x1 x2 x3 y0 h = some r) : X E mX12_tried (d + 8) (0, 0) (0, 0) 45 [some (xr 12 0), some (xi x1), some (xi x2), some (xi x3), none, none] [xi y0] h (PoI r) := by
  unfold b_X12_tried_2 at hF
  refine x_istore (i := 4) (b := 47) (ls2 := [some (xr 12 0), some (xi x1), some (xi x2), some (xi x3), some (xi y0), none]) dX12_tried_45 (Nat.le_of_ble_eq_true rfl) rfl rfl ?_
  refine x_iload (i := 4) (b := 49) dX12_tried_47 rfl rfl ?_
  refine x_if_eq (tgt := 75) (b := 52) dX12_tried_49 (by decide) rfl (fun hc => ?_) (fun hc => ?_)
  · replace hF := br_T hc hF
    refine x_iconst (n := (-1)) (b := 76) dX12_tried_75 (by decide) rfl ?_
    refine x_ireturn dX12_tried_76 rfl ⟨Nat.le_refl _, Nat.le_refl _⟩ ?_
    cases hF
    exact ⟨rfl, rfl, hL⟩
  · replace hF := br_F hc hF
    refine x_iload_n (i := 3) (b := 53) dX12_tried_52 rfl rfl rfl ?_
    refine x_if_lt (tgt := 75) (b := 56) dX12_tried_53 (by decide) rfl (fun hc => ?_) (fun hc => ?_)
    · replace hF := br_T hc hF
      refine x_iconst (n := (-1)) (b := 76) dX12_tried_75 (by decide) rfl ?_
      refine x_ireturn dX12_tried_76 rfl ⟨Nat.le_refl _, Nat.le_refl _⟩ ?_
      cases hF
      exact ⟨rfl, rfl, hL⟩
    · replace hF := br_F hc hF
      refine x_iload_n (i := 3) (b := 57) dX12_tried_56 rfl rfl rfl ?_
      refine x_bipush (n := 60) (b := 59) dX12_tried_57 (by decide) rfl ?_
      refine x_icmp_gt (tgt := 75) (b := 62) dX12_tried_59 (by decide) rfl (fun hc => ?_) (fun hc => ?_)
      · replace hF := br_T hc hF
        refine x_iconst (n := (-1)) (b := 76) dX12_tried_75 (by decide) rfl ?_
        refine x_ireturn dX12_tried_76 rfl ⟨Nat.le_refl _, Nat.le_refl _⟩ ?_
        cases hF
        exact ⟨rfl, rfl, hL⟩
      · replace hF := br_F hc hF
        refine x_aload_n (i := 0) (b := 63) dX12_tried_62 rfl rfl rfl ?_
        refine x_getL (j := 0) (t := (84, 0, true)) (b := 66) fk_X12_87 dX12_tried_63 rfl hL rfl rfl rfl ?_
        refine x_iconst (n := 0) (b := 67) dX12_tried_66 (by decide) rfl ?_
        obtain ⟨hs, hF⟩ := ck_e hF
        refine x_iald (v := gI h 84 0 0) (b := 68) ak_84 dX12_tried_67 hs rfl rfl ?_
        refine x_iload_n (i := 3) (b := 69) dX12_tried_68 rfl rfl rfl ?_
        obtain ⟨hs, hF⟩ := ck_e hF
        refine x_iadd (b := 70) dX12_tried_69 hs rfl ?_
        refine x_bipush (n := 60) (b := 72) dX12_tried_70 (by decide) rfl ?_
        refine x_icmp_le (tgt := 77) (b := 75) dX12_tried_72 (by decide) rfl (fun hc => ?_) (fun hc => ?_)
        · replace hF := br_T hc hF
          refine x_aload_n (i := 0) (b := 78) dX12_tried_77 rfl rfl rfl ?_
          obtain ⟨v1, h2, hq, hF⟩ := bd_e hF
          refine x_callV (as := []) (rest := []) (b := 81) (c_X12_plain (d + 6) h _ hL hq) dX12_tried_78 cw_X12_455 ⟨_, _, rfl, Nat.le_of_ble_eq_true rfl⟩ rfl rfl (Nat.le_of_ble_eq_true rfl) ⟨Nat.le_refl _, Nat.le_refl _⟩ rfl (fun rv hh hp _ => ?_)
          obtain ⟨rfl, rfl, hL⟩ := hp
          refine x_aload_n (i := 0) (b := 82) dX12_tried_81 rfl rfl rfl ?_
          refine x_iload_n (i := 1) (b := 83) dX12_tried_82 rfl rfl rfl ?_
          refine x_putI (b := 86) fk_X12_129 dX12_tried_83 rfl rfl 55 rfl ?_
          obtain ⟨h3, e_h3, hF⟩ := lt_e hF
          refine x_hp (h2 := h3) e_h3 ?_
          replace hL : Lay h3 := by rw [← e_h3]; exact hL
          refine x_aload_n (i := 0) (b := 87) dX12_tried_86 rfl rfl rfl ?_
          refine x_iload_n (i := 1) (b := 88) dX12_tried_87 rfl rfl rfl ?_
          refine x_iconst (n := 3) (b := 89) dX12_tried_88 (by decide) rfl ?_
          refine x_icmp_ne (tgt := 100) (b := 92) dX12_tried_89 (by decide) rfl (fun hc => ?_) (fun hc => ?_)
          · replace hF := br_F hc hF
            refine x_iconst (n := (-1)) (b := 101) dX12_tried_100 (by decide) rfl ?_
            exact x_dp (ls2 := [some (xr 12 0), none, none, some (xi x3), none, none]) ⟨rfl, rfl, trivial⟩ (hr_101 x3 (-1) h3 hL hF)
          · replace hF := br_T hc hF
            refine x_aload_n (i := 0) (b := 93) dX12_tried_92 rfl rfl rfl ?_
            refine x_iload_n (i := 2) (b := 94) dX12_tried_93 rfl rfl rfl ?_
            obtain ⟨v4, h5, hq, hF⟩ := bd_e hF
            refine x_callV (as := [xi x2]) (rest := [xr 12 0]) (b := 97) (c_X12_slot (d + 6) x2 h3 _ hL hq) dX12_tried_94 cw_X12_452 ⟨_, _, rfl, Nat.le_of_ble_eq_true rfl⟩ rfl rfl (Nat.le_of_ble_eq_true rfl) ⟨Nat.le_refl _, Nat.le_refl _⟩ rfl (fun rv hh hp _ => ?_)
            obtain ⟨rfl, rfl, hL⟩ := hp
            refine x_goto (tgt := 101) dX12_tried_97 (by decide) ?_
            exact x_dp (ls2 := [some (xr 12 0), none, none, some (xi x3), none, none]) ⟨rfl, rfl, trivial⟩ (hr_101 x3 v4 h5 hL hF)
        · replace hF := br_F hc hF
          refine x_iconst (n := (-1)) (b := 76) dX12_tried_75 (by decide) rfl ?_
          refine x_ireturn dX12_tried_76 rfl ⟨Nat.le_refl _, Nat.le_refl _⟩ ?_
          cases hF
          exact ⟨rfl, rfl, hL⟩
set_option maxHeartbeats 4000000 in
set_option maxRecDepth 100000 in
theorem t_X12_tried_3 (E : xE) (d : Nat) (rec : Rk) (r : Int × Hp) (hr_113 : ∀ (x3 x5 : Int) (h : Hp), Lay h → rec 4 [x3, x5] h = some r → X E mX12_tried (d + 8) (0, 0) (0, 0) 113 [some (xr 12 0), none, none, some (xi x3), none, some (xi x5)] [] h (PoI r)) (x3 y0 : Int) (h : Hp) (hL : Lay h) (hF : b_X12_tried_3 rec x3 y0 h = some r) : X E mX12_tried (d + 8) (0, 0) (0, 0) 101 [some (xr 12 0), none, none, some (xi x3), none, none] [xi y0, xr 12 0] h (PoI r) := by
  unfold b_X12_tried_3 at hF
  refine x_putI (b := 104) fk_X12_132 dX12_tried_101 rfl rfl 56 rfl ?_
  obtain ⟨h1, e_h1, hF⟩ := lt_e hF
  refine x_hp (h2 := h1) e_h1 ?_
  replace hL : Lay h1 := by rw [← e_h1]; exact hL
  refine x_aload_n (i := 0) (b := 105) dX12_tried_104 rfl rfl rfl ?_
  refine x_iconst (n := 1) (b := 106) dX12_tried_105 (by decide) rfl ?_
  refine x_iconst (n := 0) (b := 107) dX12_tried_106 (by decide) rfl ?_
  obtain ⟨v2, h3, hq, hF⟩ := bd_e hF
  refine x_callV (as := [xi 1, xi 0]) (rest := []) (b := 110) (c_X12_copies (d + 6) 1 0 h1 _ hL hq) dX12_tried_107 cw_X12_468 ⟨_, _, rfl, Nat.le_of_ble_eq_true rfl⟩ rfl rfl (Nat.le_of_ble_eq_true rfl) ⟨Nat.le_refl _, Nat.le_refl _⟩ rfl (fun rv hh hp _ => ?_)
  obtain ⟨rfl, rfl, hL⟩ := hp
  refine x_iconst (n := 0) (b := 111) dX12_tried_110 (by decide) rfl ?_
  refine x_istore (i := 5) (b := 113) (ls2 := [some (xr 12 0), none, none, some (xi x3), none, some (xi 0)]) dX12_tried_111 (Nat.le_of_ble_eq_true rfl) rfl rfl ?_
  exact x_dp (ls2 := [some (xr 12 0), none, none, some (xi x3), none, some (xi 0)]) ⟨rfl, rfl, rfl, trivial⟩ (hr_113 x3 0 h3 hL hF)
set_option maxHeartbeats 4000000 in
set_option maxRecDepth 100000 in
theorem t_X12_tried_4 (E : xE) (d : Nat) (rec : Rk) (r : Int × Hp) (hr_113 : ∀ (x3 x5 : Int) (h : Hp), Lay h → rec 4 [x3, x5] h = some r → X E mX12_tried (d + 8) (0, 0) (0, 0) 113 [some (xr 12 0), none, none, some (xi x3), none, some (xi x5)] [] h (PoI r)) (x3 x5 : Int) (h : Hp) (hL : Lay h) (hF : b_X12_tried_4 rec x3 x5 h = some r) : X E mX12_tried (d + 8) (0, 0) (0, 0) 113 [some (xr 12 0), none, none, some (xi x3), none, some (xi x5)] [] h (PoI r) := by
  unfold b_X12_tried_4 at hF
  refine x_iload (i := 5) (b := 115) dX12_tried_113 rfl rfl ?_
  refine x_iload_n (i := 3) (b := 116) dX12_tried_115 rfl rfl rfl ?_
  refine x_icmp_ge (tgt := 130) (b := 119) dX12_tried_116 (by decide) rfl (fun hc => ?_) (fun hc => ?_)
  · replace hF := br_T hc hF
    refine x_aload_n (i := 0) (b := 131) dX12_tried_130 rfl rfl rfl ?_
    refine x_getL (j := 0) (t := (85, 0, true)) (b := 134) fk_X12_90 dX12_tried_131 rfl hL rfl rfl rfl ?_
    refine x_iconst (n := 1) (b := 135) dX12_tried_134 (by decide) rfl ?_
    obtain ⟨hs, hF⟩ := ck_e hF
    refine x_iald (v := gI h 85 0 1) (b := 136) ak_85 dX12_tried_135 hs rfl rfl ?_
    refine x_ireturn dX12_tried_136 rfl ⟨Nat.le_refl _, Nat.le_refl _⟩ ?_
    cases hF
    exact ⟨rfl, rfl, hL⟩
  · replace hF := br_F hc hF
    refine x_aload_n (i := 0) (b := 120) dX12_tried_119 rfl rfl rfl ?_
    refine x_iconst (n := 1) (b := 121) dX12_tried_120 (by decide) rfl ?_
    obtain ⟨v1, h2, hq, hF⟩ := bd_e hF
    refine x_callV (as := [xi 1]) (rest := []) (b := 124) (c_X12_passes d 1 h _ hL hq) dX12_tried_121 cw_X12_465 ⟨_, _, rfl, Nat.le_of_ble_eq_true rfl⟩ rfl rfl (Nat.le_of_ble_eq_true rfl) ⟨Nat.le_refl _, Nat.le_refl _⟩ rfl (fun rv hh hp _ => ?_)
    obtain ⟨rfl, rfl, hL⟩ := hp
    obtain ⟨hs, hF⟩ := ck_e hF
    refine x_iinc (i := 5) (b := 127) (ls2 := [some (xr 12 0), none, none, some (xi x3), none, some (xi (x5 + 1))]) dX12_tried_124 rfl (Nat.le_of_ble_eq_true rfl) hs rfl rfl ?_
    refine x_goto (tgt := 113) dX12_tried_127 (by decide) ?_
    exact x_dp (ls2 := [some (xr 12 0), none, none, some (xi x3), none, some (xi (x5 + 1))]) ⟨rfl, rfl, rfl, trivial⟩ (hr_113 x3 (x5 + 1) h2 hL hF)
set_option maxHeartbeats 4000000 in
set_option maxRecDepth 100000 in
theorem u_X12_tried (E : xE) (d : Nat) (r : Int × Hp) : ∀ n : Nat, (∀ (x1 x2 x3 : Int) (h : Hp), Lay h → g_X12_tried n 0 [x1, x2, x3] h = some r → X E mX12_tried (d + 8) (0, 0) (0, 0) 0 [some (xr 12 0), some (xi x1), some (xi x2), some (xi x3), none, none] [] h (PoI r)) ∧ (∀ (x1 x2 x3 : Int) (h : Hp), Lay h → g_X12_tried n 1 [x1, x2, x3] h = some r → X E mX12_tried (d + 8) (0, 0) (0, 0) 44 [some (xr 12 0), some (xi x1), some (xi x2), some (xi x3), none, none] [] h (PoI r)) ∧ (∀ (x1 x2 x3 y0 : Int) (h : Hp), Lay h → g_X12_tried n 2 [x1, x2, x3, y0] h = some r → X E mX12_tried (d + 8) (0, 0) (0, 0) 45 [some (xr 12 0), some (xi x1), some (xi x2), some (xi x3), none, none] [xi y0] h (PoI r)) ∧ (∀ (x3 y0 : Int) (h : Hp), Lay h → g_X12_tried n 3 [x3, y0] h = some r → X E mX12_tried (d + 8) (0, 0) (0, 0) 101 [some (xr 12 0), none, none, some (xi x3), none, none] [xi y0, xr 12 0] h (PoI r)) ∧ (∀ (x3 x5 : Int) (h : Hp), Lay h → g_X12_tried n 4 [x3, x5] h = some r → X E mX12_tried (d + 8) (0, 0) (0, 0) 113 [some (xr 12 0), none, none, some (xi x3), none, some (xi x5)] [] h (PoI r)) := by
  intro n
  induction n with
  | zero => exact ⟨fun _ _ _ _ _ hF => no_e (r := r) hF, fun _ _ _ _ _ hF => no_e (r := r) hF, fun _ _ _ _ _ _ hF => no_e (r := r) hF, fun _ _ _ _ hF => no_e (r := r) hF, fun _ _ _ _ hF => no_e (r := r) hF⟩
  | succ n ih => exact ⟨fun x1 x2 x3 h hL hF => t_X12_tried_0 E d (g_X12_tried n) r ih.2.1 ih.2.2.1 x1 x2 x3 h hL hF, fun x1 x2 x3 h hL hF => t_X12_tried_1 E d (g_X12_tried n) r ih.2.2.1 x1 x2 x3 h hL hF, fun x1 x2 x3 y0 h hL hF => t_X12_tried_2 E d (g_X12_tried n) r ih.2.2.2.1 x1 x2 x3 y0 h hL hF, fun x3 y0 h hL hF => t_X12_tried_3 E d (g_X12_tried n) r ih.2.2.2.2 x3 y0 h hL hF, fun x3 x5 h hL hF => t_X12_tried_4 E d (g_X12_tried n) r ih.2.2.2.2 x3 x5 h hL hF⟩
theorem c_X12_tried (d : Nat) (x1 x2 x3 : Int) (h : Hp) (r : Int × Hp) (hL : Lay h) (hF : f_X12_tried x1 x2 x3 h = some r) : Sp mX12_tried (d + 8) (0, 0) [xr 12 0, xi x1, xi x2, xi x3] h (PoI r) :=
  sp_of (by decide) rfl (Nat.le_of_ble_eq_true rfl) (ls := [some (xr 12 0), some (xi x1), some (xi x2), some (xi x3), none, none]) rfl (fun E _ => (u_X12_tried E d r FU).1 x1 x2 x3 h hL hF)
theorem dX2_hold_0 : decode cX2_hold 0 = .ok (.aload_n 0, 1) := by decide +kernel
theorem dX2_hold_1 : decode cX2_hold 1 = .ok (.iconst (-1), 1) := by decide +kernel
theorem dX2_hold_2 : decode cX2_hold 2 = .ok (.putfield 40, 3) := by decide +kernel
theorem dX2_hold_5 : decode cX2_hold 5 = .ok (.aload_n 0, 1) := by decide +kernel
theorem dX2_hold_6 : decode cX2_hold 6 = .ok (.aload_n 1, 1) := by decide +kernel
theorem dX2_hold_7 : decode cX2_hold 7 = .ok (.iload_n 2, 1) := by decide +kernel
theorem dX2_hold_8 : decode cX2_hold 8 = .ok (.invokevirtual 229, 3) := by decide +kernel
theorem dX2_hold_11 : decode cX2_hold 11 = .ok (.aload_n 0, 1) := by decide +kernel
theorem dX2_hold_12 : decode cX2_hold 12 = .ok (.aload_n 1, 1) := by decide +kernel
theorem dX2_hold_13 : decode cX2_hold 13 = .ok (.invokevirtual 233, 3) := by decide +kernel
theorem dX2_hold_16 : decode cX2_hold 16 = .ok (.aload_n 0, 1) := by decide +kernel
theorem dX2_hold_17 : decode cX2_hold 17 = .ok (.aload_n 1, 1) := by decide +kernel
theorem dX2_hold_18 : decode cX2_hold 18 = .ok (.invokevirtual 237, 3) := by decide +kernel
theorem dX2_hold_21 : decode cX2_hold 21 = .ok (.aload_n 0, 1) := by decide +kernel
theorem dX2_hold_22 : decode cX2_hold 22 = .ok (.aload_n 1, 1) := by decide +kernel
theorem dX2_hold_23 : decode cX2_hold 23 = .ok (.invokevirtual 240, 3) := by decide +kernel
theorem dX2_hold_26 : decode cX2_hold 26 = .ok (.istore_n 3, 1) := by decide +kernel
theorem dX2_hold_27 : decode cX2_hold 27 = .ok (.aload_n 0, 1) := by decide +kernel
theorem dX2_hold_28 : decode cX2_hold 28 = .ok (.aload_n 1, 1) := by decide +kernel
theorem dX2_hold_29 : decode cX2_hold 29 = .ok (.iload_n 3, 1) := by decide +kernel
theorem dX2_hold_30 : decode cX2_hold 30 = .ok (.invokevirtual 244, 3) := by decide +kernel
theorem dX2_hold_33 : decode cX2_hold 33 = .ok (.iload_n 3, 1) := by decide +kernel
theorem dX2_hold_34 : decode cX2_hold 34 = .ok (.ireturn, 1) := by decide +kernel
noncomputable def b_X2_hold_0 (rec : Rk) (x1 x2 : Int) (h : Hp) : Option (Int × Hp) :=
  lt (sI h 2 0 10 (-1)) fun h1 =>
  bd (f_X2_serve x1 x2 h1) fun v2 h3 =>
  bd (f_X2_poll x1 h3) fun v4 h5 =>
  bd (f_X2_blow x1 h5) fun v6 h7 =>
  bd (f_X2_winner x1 h7) fun v8 h9 =>
  bd (f_X2_sail x1 v8 h9) fun v10 h11 =>
  some (v8, h11)
noncomputable def g_X2_hold (n : Nat) : Rk := Nat.rec (motive := fun _ => Rk) (fun _ _ _ => none) (fun _ rec k l h => if k = 0 then b_X2_hold_0 rec (l.getD 0 0) (l.getD 1 0) h else none) n
noncomputable def f_X2_hold (x1 x2 : Int) (h : Hp) : Option (Int × Hp) := g_X2_hold FU 0 [x1, x2] h
set_option maxHeartbeats 4000000 in
set_option maxRecDepth 100000 in
theorem t_X2_hold_0 (E : xE) (d : Nat) (rec : Rk) (r : Int × Hp) (x1 x2 : Int) (h : Hp) (hL : Lay h) (hF : b_X2_hold_0 rec x1 x2 h = some r) : X E mX2_hold (d + 6) (0, 0) (0, 0) 0 [some (xr 2 0), some (xr 10 x1), some (xi x2), none] [] h (PoI r) := by
  unfold b_X2_hold_0 at hF
  refine x_aload_n (i := 0) (b := 1) dX2_hold_0 rfl rfl rfl ?_
  refine x_iconst (n := (-1)) (b := 2) dX2_hold_1 (by decide) rfl ?_
  refine x_putI (b := 5) fk_X2_40 dX2_hold_2 rfl rfl 10 rfl ?_
  obtain ⟨h1, e_h1, hF⟩ := lt_e hF
  refine x_hp (h2 := h1) e_h1 ?_
  replace hL : Lay h1 := by rw [← e_h1]; exact hL
  refine x_aload_n (i := 0) (b := 6) dX2_hold_5 rfl rfl rfl ?_
  refine x_aload_n (i := 1) (b := 7) dX2_hold_6 rfl rfl rfl ?_
  refine x_iload_n (i := 2) (b := 8) dX2_hold_7 rfl rfl rfl ?_
  obtain ⟨v2, h3, hq, hF⟩ := bd_e hF
  refine x_callV (as := [xr 10 x1, xi x2]) (rest := []) (b := 11) (c_X2_serve (d + 1) x1 x2 h1 _ hL hq) dX2_hold_8 cw_X2_229 ⟨_, _, rfl, Nat.le_of_ble_eq_true rfl⟩ rfl rfl (Nat.le_of_ble_eq_true rfl) ⟨Nat.le_refl _, Nat.le_refl _⟩ rfl (fun rv hh hp _ => ?_)
  obtain ⟨rfl, rfl, hL⟩ := hp
  refine x_aload_n (i := 0) (b := 12) dX2_hold_11 rfl rfl rfl ?_
  refine x_aload_n (i := 1) (b := 13) dX2_hold_12 rfl rfl rfl ?_
  obtain ⟨v4, h5, hq, hF⟩ := bd_e hF
  refine x_callV (as := [xr 10 x1]) (rest := []) (b := 16) (c_X2_poll d x1 h3 _ hL hq) dX2_hold_13 cw_X2_233 ⟨_, _, rfl, Nat.le_of_ble_eq_true rfl⟩ rfl rfl (Nat.le_of_ble_eq_true rfl) ⟨Nat.le_refl _, Nat.le_refl _⟩ rfl (fun rv hh hp _ => ?_)
  obtain ⟨rfl, rfl, hL⟩ := hp
  refine x_aload_n (i := 0) (b := 17) dX2_hold_16 rfl rfl rfl ?_
  refine x_aload_n (i := 1) (b := 18) dX2_hold_17 rfl rfl rfl ?_
  obtain ⟨v6, h7, hq, hF⟩ := bd_e hF
  refine x_callV (as := [xr 10 x1]) (rest := []) (b := 21) (c_X2_blow (d + 2) x1 h5 _ hL hq) dX2_hold_18 cw_X2_237 ⟨_, _, rfl, Nat.le_of_ble_eq_true rfl⟩ rfl rfl (Nat.le_of_ble_eq_true rfl) ⟨Nat.le_refl _, Nat.le_refl _⟩ rfl (fun rv hh hp _ => ?_)
  obtain ⟨rfl, rfl, hL⟩ := hp
  refine x_aload_n (i := 0) (b := 22) dX2_hold_21 rfl rfl rfl ?_
  refine x_aload_n (i := 1) (b := 23) dX2_hold_22 rfl rfl rfl ?_
  obtain ⟨v8, h9, hq, hF⟩ := bd_e hF
  refine x_callV (as := [xr 10 x1]) (rest := []) (b := 26) (c_X2_winner (d + 3) x1 h7 _ hL hq) dX2_hold_23 cw_X2_240 ⟨_, _, rfl, Nat.le_of_ble_eq_true rfl⟩ rfl rfl (Nat.le_of_ble_eq_true rfl) ⟨Nat.le_refl _, Nat.le_refl _⟩ rfl (fun rv hh hp _ => ?_)
  obtain ⟨rfl, rfl, hL⟩ := hp
  refine x_istore_n (i := 3) (b := 27) (ls2 := [some (xr 2 0), some (xr 10 x1), some (xi x2), some (xi v8)]) dX2_hold_26 rfl (Nat.le_of_ble_eq_true rfl) rfl rfl ?_
  refine x_aload_n (i := 0) (b := 28) dX2_hold_27 rfl rfl rfl ?_
  refine x_aload_n (i := 1) (b := 29) dX2_hold_28 rfl rfl rfl ?_
  refine x_iload_n (i := 3) (b := 30) dX2_hold_29 rfl rfl rfl ?_
  obtain ⟨v10, h11, hq, hF⟩ := bd_e hF
  refine x_callV (as := [xr 10 x1, xi v8]) (rest := []) (b := 33) (c_X2_sail (d + 1) x1 v8 h9 _ hL hq) dX2_hold_30 cw_X2_244 ⟨_, _, rfl, Nat.le_of_ble_eq_true rfl⟩ rfl rfl (Nat.le_of_ble_eq_true rfl) ⟨Nat.le_refl _, Nat.le_refl _⟩ rfl (fun rv hh hp _ => ?_)
  obtain ⟨rfl, rfl, hL⟩ := hp
  refine x_iload_n (i := 3) (b := 34) dX2_hold_33 rfl rfl rfl ?_
  refine x_ireturn dX2_hold_34 rfl ⟨Nat.le_refl _, Nat.le_refl _⟩ ?_
  cases hF
  exact ⟨rfl, rfl, hL⟩
set_option maxHeartbeats 4000000 in
set_option maxRecDepth 100000 in
theorem u_X2_hold (E : xE) (d : Nat) (r : Int × Hp) : ∀ n : Nat, (∀ (x1 x2 : Int) (h : Hp), Lay h → g_X2_hold n 0 [x1, x2] h = some r → X E mX2_hold (d + 6) (0, 0) (0, 0) 0 [some (xr 2 0), some (xr 10 x1), some (xi x2), none] [] h (PoI r)) := by
  intro n
  induction n with
  | zero => exact fun _ _ _ _ hF => no_e (r := r) hF
  | succ n ih => exact fun x1 x2 h hL hF => t_X2_hold_0 E d (g_X2_hold n) r  x1 x2 h hL hF
theorem c_X2_hold (d : Nat) (x1 x2 : Int) (h : Hp) (r : Int × Hp) (hL : Lay h) (hF : f_X2_hold x1 x2 h = some r) : Sp mX2_hold (d + 6) (0, 0) [xr 2 0, xr 10 x1, xi x2] h (PoI r) :=
  sp_of (by decide) rfl (Nat.le_of_ble_eq_true rfl) (ls := [some (xr 2 0), some (xr 10 x1), some (xi x2), none]) rfl (fun E _ => (u_X2_hold E d r FU) x1 x2 h hL hF)
theorem dX6_find_0 : decode cX6_find 0 = .ok (.aload_n 0, 1) := by decide +kernel
theorem dX6_find_1 : decode cX6_find 1 = .ok (.iconst (-1), 1) := by decide +kernel
theorem dX6_find_2 : decode cX6_find 2 = .ok (.putfield 28, 3) := by decide +kernel
theorem dX6_find_5 : decode cX6_find 5 = .ok (.aload_n 0, 1) := by decide +kernel
theorem dX6_find_6 : decode cX6_find 6 = .ok (.iconst 0, 1) := by decide +kernel
theorem dX6_find_7 : decode cX6_find 7 = .ok (.putfield 24, 3) := by decide +kernel
theorem dX6_find_10 : decode cX6_find 10 = .ok (.aload_n 1, 1) := by decide +kernel
theorem dX6_find_11 : decode cX6_find 11 = .ok (.getfield 36, 3) := by decide +kernel
theorem dX6_find_14 : decode cX6_find 14 = .ok (.aload_n 0, 1) := by decide +kernel
theorem dX6_find_15 : decode cX6_find 15 = .ok (.getfield 31, 3) := by decide +kernel
theorem dX6_find_18 : decode cX6_find 18 = .ok (.getfield 39, 3) := by decide +kernel
theorem dX6_find_21 : decode cX6_find 21 = .ok (.getfield 45, 3) := by decide +kernel
theorem dX6_find_24 : decode cX6_find 24 = .ok (.getfield 51, 3) := by decide +kernel
theorem dX6_find_27 : decode cX6_find 27 = .ok (.if_icmp .ne 9, 3) := by decide +kernel
theorem dX6_find_30 : decode cX6_find 30 = .ok (.aload_n 0, 1) := by decide +kernel
theorem dX6_find_31 : decode cX6_find 31 = .ok (.iconst 0, 1) := by decide +kernel
theorem dX6_find_32 : decode cX6_find 32 = .ok (.putfield 28, 3) := by decide +kernel
theorem dX6_find_35 : decode cX6_find 35 = .ok (.return_, 1) := by decide +kernel
theorem dX6_find_36 : decode cX6_find 36 = .ok (.aload_n 0, 1) := by decide +kernel
theorem dX6_find_37 : decode cX6_find 37 = .ok (.getfield 11, 3) := by decide +kernel
theorem dX6_find_40 : decode cX6_find 40 = .ok (.iconst 0, 1) := by decide +kernel
theorem dX6_find_41 : decode cX6_find 41 = .ok (.aaload, 1) := by decide +kernel
theorem dX6_find_42 : decode cX6_find 42 = .ok (.aload_n 1, 1) := by decide +kernel
theorem dX6_find_43 : decode cX6_find 43 = .ok (.invokevirtual 56, 3) := by decide +kernel
theorem dX6_find_46 : decode cX6_find 46 = .ok (.aload_n 0, 1) := by decide +kernel
theorem dX6_find_47 : decode cX6_find 47 = .ok (.iconst 0, 1) := by decide +kernel
theorem dX6_find_48 : decode cX6_find 48 = .ok (.iload_n 2, 1) := by decide +kernel
theorem dX6_find_49 : decode cX6_find 49 = .ok (.iconst 0, 1) := by decide +kernel
theorem dX6_find_50 : decode cX6_find 50 = .ok (.invokevirtual 60, 3) := by decide +kernel
theorem dX6_find_53 : decode cX6_find 53 = .ok (.aload_n 0, 1) := by decide +kernel
theorem dX6_find_54 : decode cX6_find 54 = .ok (.getfield 31, 3) := by decide +kernel
theorem dX6_find_57 : decode cX6_find 57 = .ok (.iconst (-1), 1) := by decide +kernel
theorem dX6_find_58 : decode cX6_find 58 = .ok (.invokevirtual 64, 3) := by decide +kernel
theorem dX6_find_61 : decode cX6_find 61 = .ok (.return_, 1) := by decide +kernel
noncomputable def b_X6_find_0 (rec : Rk) (x1 x2 : Int) (h : Hp) : Option (Int × Hp) :=
  lt (sI h 6 0 5 (-1)) fun h1 =>
  lt (sI h1 6 0 4 0) fun h2 =>
  rf (gR h2 2 0 0) 0 fun j3 =>
  if (gI h2 10 x1 1) = (gI h2 9 j3 5) then (
    lt (sI h2 6 0 5 0) fun h4 =>
    some (0, h4)
  ) else (
    ck (0 ≤ (0 : Int) ∧ (0 : Int) < 4) <|
    rf (gR h2 43 0 0) 10 fun j5 =>
    bd (f_X10_copyFrom j5 x1 h2) fun v6 h7 =>
    bd (f_X6_search 0 x2 0 h7) fun v8 h9 =>
    bd (f_X2_usePage (-1) h9) fun v10 h11 =>
    some (0, h11)
  )
noncomputable def g_X6_find (n : Nat) : Rk := Nat.rec (motive := fun _ => Rk) (fun _ _ _ => none) (fun _ rec k l h => if k = 0 then b_X6_find_0 rec (l.getD 0 0) (l.getD 1 0) h else none) n
noncomputable def f_X6_find (x1 x2 : Int) (h : Hp) : Option (Int × Hp) := g_X6_find FU 0 [x1, x2] h
set_option maxHeartbeats 4000000 in
set_option maxRecDepth 100000 in
theorem t_X6_find_0 (E : xE) (d : Nat) (rec : Rk) (r : Int × Hp) (x1 x2 : Int) (h : Hp) (hL : Lay h) (hF : b_X6_find_0 rec x1 x2 h = some r) : X E mX6_find (d + 1006) (0, 0) (0, 0) 0 [some (xr 6 0), some (xr 10 x1), some (xi x2)] [] h (PoV r) := by
  unfold b_X6_find_0 at hF
  refine x_aload_n (i := 0) (b := 1) dX6_find_0 rfl rfl rfl ?_
  refine x_iconst (n := (-1)) (b := 2) dX6_find_1 (by decide) rfl ?_
  refine x_putI (b := 5) fk_X6_28 dX6_find_2 rfl rfl 5 rfl ?_
  obtain ⟨h1, e_h1, hF⟩ := lt_e hF
  refine x_hp (h2 := h1) e_h1 ?_
  replace hL : Lay h1 := by rw [← e_h1]; exact hL
  refine x_aload_n (i := 0) (b := 6) dX6_find_5 rfl rfl rfl ?_
  refine x_iconst (n := 0) (b := 7) dX6_find_6 (by decide) rfl ?_
  refine x_putI (b := 10) fk_X6_24 dX6_find_7 rfl rfl 4 rfl ?_
  obtain ⟨h2, e_h2, hF⟩ := lt_e hF
  refine x_hp (h2 := h2) e_h2 ?_
  replace hL : Lay h2 := by rw [← e_h2]; exact hL
  refine x_aload_n (i := 1) (b := 11) dX6_find_10 rfl rfl rfl ?_
  refine x_getI (v := gI h2 10 x1 1) (b := 14) fk_X6_36 dX6_find_11 (by decide) rfl rfl ?_
  refine x_aload_n (i := 0) (b := 15) dX6_find_14 rfl rfl rfl ?_
  refine x_getL (j := 0) (t := (2, 0, false)) (b := 18) fk_X6_31 dX6_find_15 rfl hL rfl rfl rfl ?_
  obtain ⟨j3, e_j3, hF⟩ := rf_e hF
  refine x_getR (v := some (0, j3)) (b := 21) fk_X6_39 dX6_find_18 rfl e_j3 rfl ?_
  refine x_getL (j := j3) (t := (9, 0, true)) (b := 24) fk_X6_45 dX6_find_21 rfl hL rfl rfl rfl ?_
  refine x_getI (v := gI h2 9 j3 5) (b := 27) fk_X6_51 dX6_find_24 (by decide) rfl rfl ?_
  refine x_icmp_ne (tgt := 36) (b := 30) dX6_find_27 (by decide) rfl (fun hc => ?_) (fun hc => ?_)
  · replace hF := br_F hc hF
    refine x_aload_n (i := 0) (b := 37) dX6_find_36 rfl rfl rfl ?_
    refine x_getL (j := 0) (t := (43, 0, true)) (b := 40) fk_X6_11 dX6_find_37 rfl hL rfl rfl rfl ?_
    refine x_iconst (n := 0) (b := 41) dX6_find_40 (by decide) rfl ?_
    obtain ⟨hs, hF⟩ := ck_e hF
    obtain ⟨j5, e_j5, hF⟩ := rf_e hF
    refine x_aaldV (v := some (10, j5)) (b := 42) ak_43 dX6_find_41 hs e_j5 rfl ?_
    refine x_aload_n (i := 1) (b := 43) dX6_find_42 rfl rfl rfl ?_
    obtain ⟨v6, h7, hq, hF⟩ := bd_e hF
    refine x_callV (as := [xr 10 x1]) (rest := []) (b := 46) (c_X10_copyFrom (d + 1004) j5 x1 h2 _ hL hq) dX6_find_43 cw_X6_56 ⟨_, _, rfl, Nat.le_of_ble_eq_true rfl⟩ rfl rfl (Nat.le_of_ble_eq_true rfl) ⟨Nat.le_refl _, Nat.le_refl _⟩ rfl (fun rv hh hp _ => ?_)
    obtain ⟨rfl, rfl, hL⟩ := hp
    refine x_aload_n (i := 0) (b := 47) dX6_find_46 rfl rfl rfl ?_
    refine x_iconst (n := 0) (b := 48) dX6_find_47 (by decide) rfl ?_
    refine x_iload_n (i := 2) (b := 49) dX6_find_48 rfl rfl rfl ?_
    refine x_iconst (n := 0) (b := 50) dX6_find_49 (by decide) rfl ?_
    obtain ⟨v8, h9, hq, hF⟩ := bd_e hF
    refine x_callV (as := [xi 0, xi x2, xi 0]) (rest := []) (b := 53) (c_X6_search d 0 x2 0 h7 _ hL hq) dX6_find_50 cw_X6_60 ⟨_, _, rfl, Nat.le_of_ble_eq_true rfl⟩ rfl rfl (Nat.le_of_ble_eq_true rfl) ⟨Nat.le_refl _, Nat.le_refl _⟩ rfl (fun rv hh hp _ => ?_)
    obtain ⟨rfl, rfl, hL⟩ := hp
    refine x_aload_n (i := 0) (b := 54) dX6_find_53 rfl rfl rfl ?_
    refine x_getL (j := 0) (t := (2, 0, false)) (b := 57) fk_X6_31 dX6_find_54 rfl hL rfl rfl rfl ?_
    refine x_iconst (n := (-1)) (b := 58) dX6_find_57 (by decide) rfl ?_
    obtain ⟨v10, h11, hq, hF⟩ := bd_e hF
    refine x_callV (as := [xi (-1)]) (rest := []) (b := 61) (c_X2_usePage (d + 1004) (-1) h9 _ hL hq) dX6_find_58 cw_X6_64 ⟨_, _, rfl, Nat.le_of_ble_eq_true rfl⟩ rfl rfl (Nat.le_of_ble_eq_true rfl) ⟨Nat.le_refl _, Nat.le_refl _⟩ rfl (fun rv hh hp _ => ?_)
    obtain ⟨rfl, rfl, hL⟩ := hp
    refine x_return dX6_find_61 rfl ⟨Nat.le_refl _, Nat.le_refl _⟩ ?_
    cases hF
    exact ⟨rfl, rfl, hL⟩
  · replace hF := br_T hc hF
    refine x_aload_n (i := 0) (b := 31) dX6_find_30 rfl rfl rfl ?_
    refine x_iconst (n := 0) (b := 32) dX6_find_31 (by decide) rfl ?_
    refine x_putI (b := 35) fk_X6_28 dX6_find_32 rfl rfl 5 rfl ?_
    obtain ⟨h4, e_h4, hF⟩ := lt_e hF
    refine x_hp (h2 := h4) e_h4 ?_
    replace hL : Lay h4 := by rw [← e_h4]; exact hL
    refine x_return dX6_find_35 rfl ⟨Nat.le_refl _, Nat.le_refl _⟩ ?_
    cases hF
    exact ⟨rfl, rfl, hL⟩
set_option maxHeartbeats 4000000 in
set_option maxRecDepth 100000 in
theorem u_X6_find (E : xE) (d : Nat) (r : Int × Hp) : ∀ n : Nat, (∀ (x1 x2 : Int) (h : Hp), Lay h → g_X6_find n 0 [x1, x2] h = some r → X E mX6_find (d + 1006) (0, 0) (0, 0) 0 [some (xr 6 0), some (xr 10 x1), some (xi x2)] [] h (PoV r)) := by
  intro n
  induction n with
  | zero => exact fun _ _ _ _ hF => no_e (r := r) hF
  | succ n ih => exact fun x1 x2 h hL hF => t_X6_find_0 E d (g_X6_find n) r  x1 x2 h hL hF
theorem c_X6_find (d : Nat) (x1 x2 : Int) (h : Hp) (r : Int × Hp) (hL : Lay h) (hF : f_X6_find x1 x2 h = some r) : Sp mX6_find (d + 1006) (0, 0) [xr 6 0, xr 10 x1, xi x2] h (PoV r) :=
  sp_of (by decide) rfl (Nat.le_of_ble_eq_true rfl) (ls := [some (xr 6 0), some (xr 10 x1), some (xi x2)]) rfl (fun E _ => (u_X6_find E d r FU) x1 x2 h hL hF)
theorem dX7_readMouth_0 : decode cX7_readMouth 0 = .ok (.iload_n 1, 1) := by decide +kernel
theorem dX7_readMouth_1 : decode cX7_readMouth 1 = .ok (.bipush 11, 2) := by decide +kernel
theorem dX7_readMouth_3 : decode cX7_readMouth 3 = .ok (.if_icmp .ne 7, 3) := by decide +kernel
theorem dX7_readMouth_6 : decode cX7_readMouth 6 = .ok (.iconst 1, 1) := by decide +kernel
theorem dX7_readMouth_7 : decode cX7_readMouth 7 = .ok (.goto 4, 3) := by decide +kernel
theorem dX7_readMouth_10 : decode cX7_readMouth 10 = .ok (.iconst 0, 1) := by decide +kernel
theorem dX7_readMouth_11 : decode cX7_readMouth 11 = .ok (.istore_n 3, 1) := by decide +kernel
theorem dX7_readMouth_12 : decode cX7_readMouth 12 = .ok (.iload_n 3, 1) := by decide +kernel
theorem dX7_readMouth_13 : decode cX7_readMouth 13 = .ok (.ifCond .eq 17, 3) := by decide +kernel
theorem dX7_readMouth_16 : decode cX7_readMouth 16 = .ok (.aload_n 0, 1) := by decide +kernel
theorem dX7_readMouth_17 : decode cX7_readMouth 17 = .ok (.getfield 76, 3) := by decide +kernel
theorem dX7_readMouth_20 : decode cX7_readMouth 20 = .ok (.getfield 251, 3) := by decide +kernel
theorem dX7_readMouth_23 : decode cX7_readMouth 23 = .ok (.iconst 4, 1) := by decide +kernel
theorem dX7_readMouth_24 : decode cX7_readMouth 24 = .ok (.if_icmp .lt 24, 3) := by decide +kernel
theorem dX7_readMouth_27 : decode cX7_readMouth 27 = .ok (.goto 14, 3) := by decide +kernel
theorem dX7_readMouth_30 : decode cX7_readMouth 30 = .ok (.aload_n 0, 1) := by decide +kernel
theorem dX7_readMouth_31 : decode cX7_readMouth 31 = .ok (.getfield 76, 3) := by decide +kernel
theorem dX7_readMouth_34 : decode cX7_readMouth 34 = .ok (.getfield 254, 3) := by decide +kernel
theorem dX7_readMouth_37 : decode cX7_readMouth 37 = .ok (.iconst 5, 1) := by decide +kernel
theorem dX7_readMouth_38 : decode cX7_readMouth 38 = .ok (.if_icmp .lt 10, 3) := by decide +kernel
theorem dX7_readMouth_41 : decode cX7_readMouth 41 = .ok (.aload_n 0, 1) := by decide +kernel
theorem dX7_readMouth_42 : decode cX7_readMouth 42 = .ok (.iconst 2, 1) := by decide +kernel
theorem dX7_readMouth_43 : decode cX7_readMouth 43 = .ok (.iload_n 2, 1) := by decide +kernel
theorem dX7_readMouth_44 : decode cX7_readMouth 44 = .ok (.invokevirtual 149, 3) := by decide +kernel
theorem dX7_readMouth_47 : decode cX7_readMouth 47 = .ok (.ireturn, 1) := by decide +kernel
theorem dX7_readMouth_48 : decode cX7_readMouth 48 = .ok (.iload_n 3, 1) := by decide +kernel
theorem dX7_readMouth_49 : decode cX7_readMouth 49 = .ok (.ifCond .eq 15, 3) := by decide +kernel
theorem dX7_readMouth_52 : decode cX7_readMouth 52 = .ok (.iconst 5, 1) := by decide +kernel
theorem dX7_readMouth_53 : decode cX7_readMouth 53 = .ok (.aload_n 0, 1) := by decide +kernel
theorem dX7_readMouth_54 : decode cX7_readMouth 54 = .ok (.getfield 76, 3) := by decide +kernel
theorem dX7_readMouth_57 : decode cX7_readMouth 57 = .ok (.getfield 251, 3) := by decide +kernel
theorem dX7_readMouth_60 : decode cX7_readMouth 60 = .ok (.iadd, 1) := by decide +kernel
theorem dX7_readMouth_61 : decode cX7_readMouth 61 = .ok (.goto 10, 3) := by decide +kernel
theorem dX7_readMouth_64 : decode cX7_readMouth 64 = .ok (.aload_n 0, 1) := by decide +kernel
theorem dX7_readMouth_65 : decode cX7_readMouth 65 = .ok (.getfield 76, 3) := by decide +kernel
theorem dX7_readMouth_68 : decode cX7_readMouth 68 = .ok (.getfield 254, 3) := by decide +kernel
theorem dX7_readMouth_71 : decode cX7_readMouth 71 = .ok (.istore 4, 2) := by decide +kernel
theorem dX7_readMouth_73 : decode cX7_readMouth 73 = .ok (.aload_n 0, 1) := by decide +kernel
theorem dX7_readMouth_74 : decode cX7_readMouth 74 = .ok (.getfield 26, 3) := by decide +kernel
theorem dX7_readMouth_77 : decode cX7_readMouth 77 = .ok (.iconst 1, 1) := by decide +kernel
theorem dX7_readMouth_78 : decode cX7_readMouth 78 = .ok (.if_icmp .ne 15, 3) := by decide +kernel
theorem dX7_readMouth_81 : decode cX7_readMouth 81 = .ok (.iload 4, 2) := by decide +kernel
theorem dX7_readMouth_83 : decode cX7_readMouth 83 = .ok (.ifCond .lt 10, 3) := by decide +kernel
theorem dX7_readMouth_86 : decode cX7_readMouth 86 = .ok (.iload 4, 2) := by decide +kernel
theorem dX7_readMouth_88 : decode cX7_readMouth 88 = .ok (.bipush 9, 2) := by decide +kernel
theorem dX7_readMouth_90 : decode cX7_readMouth 90 = .ok (.if_icmp .lt 13, 3) := by decide +kernel
theorem dX7_readMouth_93 : decode cX7_readMouth 93 = .ok (.aload_n 0, 1) := by decide +kernel
theorem dX7_readMouth_94 : decode cX7_readMouth 94 = .ok (.iconst 1, 1) := by decide +kernel
theorem dX7_readMouth_95 : decode cX7_readMouth 95 = .ok (.aload_n 0, 1) := by decide +kernel
theorem dX7_readMouth_96 : decode cX7_readMouth 96 = .ok (.getfield 29, 3) := by decide +kernel
theorem dX7_readMouth_99 : decode cX7_readMouth 99 = .ok (.invokevirtual 149, 3) := by decide +kernel
theorem dX7_readMouth_102 : decode cX7_readMouth 102 = .ok (.ireturn, 1) := by decide +kernel
theorem dX7_readMouth_103 : decode cX7_readMouth 103 = .ok (.aload_n 0, 1) := by decide +kernel
theorem dX7_readMouth_104 : decode cX7_readMouth 104 = .ok (.aload_n 0, 1) := by decide +kernel
theorem dX7_readMouth_105 : decode cX7_readMouth 105 = .ok (.getfield 32, 3) := by decide +kernel
theorem dX7_readMouth_108 : decode cX7_readMouth 108 = .ok (.invokevirtual 257, 3) := by decide +kernel
theorem dX7_readMouth_111 : decode cX7_readMouth 111 = .ok (.ifCond .eq 13, 3) := by decide +kernel
theorem dX7_readMouth_114 : decode cX7_readMouth 114 = .ok (.aload_n 0, 1) := by decide +kernel
theorem dX7_readMouth_115 : decode cX7_readMouth 115 = .ok (.iconst 3, 1) := by decide +kernel
theorem dX7_readMouth_116 : decode cX7_readMouth 116 = .ok (.aload_n 0, 1) := by decide +kernel
theorem dX7_readMouth_117 : decode cX7_readMouth 117 = .ok (.getfield 29, 3) := by decide +kernel
theorem dX7_readMouth_120 : decode cX7_readMouth 120 = .ok (.invokevirtual 149, 3) := by decide +kernel
theorem dX7_readMouth_123 : decode cX7_readMouth 123 = .ok (.ireturn, 1) := by decide +kernel
theorem dX7_readMouth_124 : decode cX7_readMouth 124 = .ok (.aload_n 0, 1) := by decide +kernel
theorem dX7_readMouth_125 : decode cX7_readMouth 125 = .ok (.getfield 76, 3) := by decide +kernel
theorem dX7_readMouth_128 : decode cX7_readMouth 128 = .ok (.getfield 260, 3) := by decide +kernel
theorem dX7_readMouth_131 : decode cX7_readMouth 131 = .ok (.iload 4, 2) := by decide +kernel
theorem dX7_readMouth_133 : decode cX7_readMouth 133 = .ok (.aaload, 1) := by decide +kernel
theorem dX7_readMouth_134 : decode cX7_readMouth 134 = .ok (.astore 5, 2) := by decide +kernel
theorem dX7_readMouth_136 : decode cX7_readMouth 136 = .ok (.aload 5, 2) := by decide +kernel
theorem dX7_readMouth_138 : decode cX7_readMouth 138 = .ok (.aload_n 0, 1) := by decide +kernel
theorem dX7_readMouth_139 : decode cX7_readMouth 139 = .ok (.getfield 32, 3) := by decide +kernel
theorem dX7_readMouth_142 : decode cX7_readMouth 142 = .ok (.invokevirtual 264, 3) := by decide +kernel
theorem dX7_readMouth_145 : decode cX7_readMouth 145 = .ok (.aload_n 0, 1) := by decide +kernel
theorem dX7_readMouth_146 : decode cX7_readMouth 146 = .ok (.invokevirtual 89, 3) := by decide +kernel
theorem dX7_readMouth_149 : decode cX7_readMouth 149 = .ok (.aload_n 0, 1) := by decide +kernel
theorem dX7_readMouth_150 : decode cX7_readMouth 150 = .ok (.iconst 0, 1) := by decide +kernel
theorem dX7_readMouth_151 : decode cX7_readMouth 151 = .ok (.bipush 9, 2) := by decide +kernel
theorem dX7_readMouth_153 : decode cX7_readMouth 153 = .ok (.invokevirtual 167, 3) := by decide +kernel
theorem dX7_readMouth_156 : decode cX7_readMouth 156 = .ok (.ifCond .ne 5, 3) := by decide +kernel
theorem dX7_readMouth_159 : decode cX7_readMouth 159 = .ok (.iconst 0, 1) := by decide +kernel
theorem dX7_readMouth_160 : decode cX7_readMouth 160 = .ok (.ireturn, 1) := by decide +kernel
theorem dX7_readMouth_161 : decode cX7_readMouth 161 = .ok (.aload 5, 2) := by decide +kernel
theorem dX7_readMouth_163 : decode cX7_readMouth 163 = .ok (.aload_n 0, 1) := by decide +kernel
theorem dX7_readMouth_164 : decode cX7_readMouth 164 = .ok (.getfield 41, 3) := by decide +kernel
theorem dX7_readMouth_167 : decode cX7_readMouth 167 = .ok (.putfield 269, 3) := by decide +kernel
theorem dX7_readMouth_170 : decode cX7_readMouth 170 = .ok (.iload_n 3, 1) := by decide +kernel
theorem dX7_readMouth_171 : decode cX7_readMouth 171 = .ok (.ifCond .eq 12, 3) := by decide +kernel
theorem dX7_readMouth_174 : decode cX7_readMouth 174 = .ok (.aload_n 0, 1) := by decide +kernel
theorem dX7_readMouth_175 : decode cX7_readMouth 175 = .ok (.aload 5, 2) := by decide +kernel
theorem dX7_readMouth_177 : decode cX7_readMouth 177 = .ok (.invokevirtual 272, 3) := by decide +kernel
theorem dX7_readMouth_180 : decode cX7_readMouth 180 = .ok (.ifCond .eq 21, 3) := by decide +kernel
theorem dX7_readMouth_183 : decode cX7_readMouth 183 = .ok (.aload_n 0, 1) := by decide +kernel
theorem dX7_readMouth_184 : decode cX7_readMouth 184 = .ok (.aload 5, 2) := by decide +kernel
theorem dX7_readMouth_186 : decode cX7_readMouth 186 = .ok (.invokevirtual 276, 3) := by decide +kernel
theorem dX7_readMouth_189 : decode cX7_readMouth 189 = .ok (.ifCond .eq 12, 3) := by decide +kernel
theorem dX7_readMouth_192 : decode cX7_readMouth 192 = .ok (.aload_n 0, 1) := by decide +kernel
theorem dX7_readMouth_193 : decode cX7_readMouth 193 = .ok (.aload 5, 2) := by decide +kernel
theorem dX7_readMouth_195 : decode cX7_readMouth 195 = .ok (.invokevirtual 279, 3) := by decide +kernel
theorem dX7_readMouth_198 : decode cX7_readMouth 198 = .ok (.ifCond .ne 5, 3) := by decide +kernel
theorem dX7_readMouth_201 : decode cX7_readMouth 201 = .ok (.iconst 0, 1) := by decide +kernel
theorem dX7_readMouth_202 : decode cX7_readMouth 202 = .ok (.ireturn, 1) := by decide +kernel
theorem dX7_readMouth_203 : decode cX7_readMouth 203 = .ok (.aload_n 0, 1) := by decide +kernel
theorem dX7_readMouth_204 : decode cX7_readMouth 204 = .ok (.getfield 76, 3) := by decide +kernel
theorem dX7_readMouth_207 : decode cX7_readMouth 207 = .ok (.dup, 1) := by decide +kernel
theorem dX7_readMouth_208 : decode cX7_readMouth 208 = .ok (.getfield 251, 3) := by decide +kernel
theorem dX7_readMouth_211 : decode cX7_readMouth 211 = .ok (.iload_n 3, 1) := by decide +kernel
theorem dX7_readMouth_212 : decode cX7_readMouth 212 = .ok (.ifCond .eq 7, 3) := by decide +kernel
theorem dX7_readMouth_215 : decode cX7_readMouth 215 = .ok (.iconst 1, 1) := by decide +kernel
theorem dX7_readMouth_216 : decode cX7_readMouth 216 = .ok (.goto 4, 3) := by decide +kernel
theorem dX7_readMouth_219 : decode cX7_readMouth 219 = .ok (.iconst 0, 1) := by decide +kernel
theorem dX7_readMouth_220 : decode cX7_readMouth 220 = .ok (.iadd, 1) := by decide +kernel
theorem dX7_readMouth_221 : decode cX7_readMouth 221 = .ok (.putfield 251, 3) := by decide +kernel
theorem dX7_readMouth_224 : decode cX7_readMouth 224 = .ok (.aload_n 0, 1) := by decide +kernel
theorem dX7_readMouth_225 : decode cX7_readMouth 225 = .ok (.getfield 76, 3) := by decide +kernel
theorem dX7_readMouth_228 : decode cX7_readMouth 228 = .ok (.dup, 1) := by decide +kernel
theorem dX7_readMouth_229 : decode cX7_readMouth 229 = .ok (.getfield 254, 3) := by decide +kernel
theorem dX7_readMouth_232 : decode cX7_readMouth 232 = .ok (.iload_n 3, 1) := by decide +kernel
theorem dX7_readMouth_233 : decode cX7_readMouth 233 = .ok (.ifCond .eq 7, 3) := by decide +kernel
theorem dX7_readMouth_236 : decode cX7_readMouth 236 = .ok (.iconst 0, 1) := by decide +kernel
theorem dX7_readMouth_237 : decode cX7_readMouth 237 = .ok (.goto 4, 3) := by decide +kernel
theorem dX7_readMouth_240 : decode cX7_readMouth 240 = .ok (.iconst 1, 1) := by decide +kernel
theorem dX7_readMouth_241 : decode cX7_readMouth 241 = .ok (.iadd, 1) := by decide +kernel
theorem dX7_readMouth_242 : decode cX7_readMouth 242 = .ok (.putfield 254, 3) := by decide +kernel
theorem dX7_readMouth_245 : decode cX7_readMouth 245 = .ok (.iconst 1, 1) := by decide +kernel
theorem dX7_readMouth_246 : decode cX7_readMouth 246 = .ok (.ireturn, 1) := by decide +kernel
noncomputable def b_X7_readMouth_0 (rec : Rk) (x1 x2 : Int) (h : Hp) : Option (Int × Hp) :=
  if x1 = 11 then (
    rec 1 [x2, 1] h
  ) else (
    rec 1 [x2, 0] h
  )
noncomputable def b_X7_readMouth_1 (rec : Rk) (x2 y0 : Int) (h : Hp) : Option (Int × Hp) :=
  if y0 = 0 then (
    rf (gR h 7 0 1) 0 fun j1 =>
    if (gI h 0 j1 3) < 5 then (
      rec 3 [y0] h
    ) else (
      rec 2 [x2] h
    )
  ) else (
    rf (gR h 7 0 1) 0 fun j2 =>
    if (gI h 0 j2 4) < 4 then (
      rec 3 [y0] h
    ) else (
      rec 2 [x2] h
    )
  )
noncomputable def b_X7_readMouth_2 (rec : Rk) (x2 : Int) (h : Hp) : Option (Int × Hp) :=
  bd (f_X7_wrong 2 x2 h) fun v1 h2 =>
  ck (0 ≤ v1 ∧ v1 < 2) <|
  some (v1, h2)
noncomputable def b_X7_readMouth_3 (rec : Rk) (x3 : Int) (h : Hp) : Option (Int × Hp) :=
  if x3 = 0 then (
    rf (gR h 7 0 1) 0 fun j1 =>
    rec 4 [x3, gI h 0 j1 3] h
  ) else (
    rf (gR h 7 0 1) 0 fun j2 =>
    ck (-2147483648 ≤ 5 + (gI h 0 j2 4) ∧ 5 + (gI h 0 j2 4) < 2147483648) <|
    rec 4 [x3, 5 + (gI h 0 j2 4)] h
  )
noncomputable def b_X7_readMouth_4 (rec : Rk) (x3 y0 : Int) (h : Hp) : Option (Int × Hp) :=
  if (gI h 7 0 6) = 1 then (
    if y0 < 0 then (
      rec 5 [] h
    ) else (
      if y0 < 9 then (
        bd (f_X7_isCrewName (gI h 7 0 8) h) fun v1 h2 =>
        if v1 = 0 then (
          rf (gR h2 7 0 1) 0 fun j3 =>
          ck (0 ≤ y0 ∧ y0 < 9) <|
          rf (gR h2 20 j3 y0) 4 fun j4 =>
          bd (f_X4_begin j4 (gI h2 7 0 8) h2) fun v5 h6 =>
          bd (f_X7_advance h6) fun v7 h8 =>
          bd (f_X7_readNumber 0 9 h8) fun v9 h10 =>
          if v9 = 0 then (
            some (0, h10)
          ) else (
            lt (sI h10 4 j4 1 (gI h10 7 0 11)) fun h11 =>
            if x3 = 0 then (
              rec 6 [x3, j4] h11
            ) else (
              bd (f_X7_readOdds j4 h11) fun v12 h13 =>
              if v12 = 0 then (
                some (0, h13)
              ) else (
                rec 6 [x3, j4] h13
              )
            )
          )
        ) else (
          bd (f_X7_wrong 3 (gI h2 7 0 7) h2) fun v14 h15 =>
          ck (0 ≤ v14 ∧ v14 < 2) <|
          some (v14, h15)
        )
      ) else (
        rec 5 [] h
      )
    )
  ) else (
    rec 5 [] h
  )
noncomputable def b_X7_readMouth_5 (rec : Rk) (h : Hp) : Option (Int × Hp) :=
  bd (f_X7_wrong 1 (gI h 7 0 7) h) fun v1 h2 =>
  ck (0 ≤ v1 ∧ v1 < 2) <|
  some (v1, h2)
noncomputable def b_X7_readMouth_6 (rec : Rk) (x3 x5 : Int) (h : Hp) : Option (Int × Hp) :=
  bd (f_X7_readRest x5 h) fun v1 h2 =>
  if v1 = 0 then (
    some (0, h2)
  ) else (
    bd (f_X7_readExpression x5 h2) fun v3 h4 =>
    if v3 = 0 then (
      some (0, h4)
    ) else (
      rf (gR h4 7 0 1) 0 fun j5 =>
      if x3 = 0 then (
        rec 7 [x3, 0, gI h4 0 j5 4, j5] h4
      ) else (
        rec 7 [x3, 1, gI h4 0 j5 4, j5] h4
      )
    )
  )
noncomputable def b_X7_readMouth_7 (rec : Rk) (x3 y0 y1 y2 : Int) (h : Hp) : Option (Int × Hp) :=
  ck (-2147483648 ≤ y1 + y0 ∧ y1 + y0 < 2147483648) <|
  lt (sI h 0 y2 4 (y1 + y0)) fun h1 =>
  rf (gR h1 7 0 1) 0 fun j2 =>
  if x3 = 0 then (
    ck (-2147483648 ≤ (gI h1 0 j2 3) + 1 ∧ (gI h1 0 j2 3) + 1 < 2147483648) <|
    lt (sI h1 0 j2 3 ((gI h1 0 j2 3) + 1)) fun h3 =>
    some (1, h3)
  ) else (
    ck (-2147483648 ≤ (gI h1 0 j2 3) + 0 ∧ (gI h1 0 j2 3) + 0 < 2147483648) <|
    lt (sI h1 0 j2 3 ((gI h1 0 j2 3) + 0)) fun h4 =>
    some (1, h4)
  )
noncomputable def g_X7_readMouth (n : Nat) : Rk := Nat.rec (motive := fun _ => Rk) (fun _ _ _ => none) (fun _ rec k l h => if k = 0 then b_X7_readMouth_0 rec (l.getD 0 0) (l.getD 1 0) h else if k = 1 then b_X7_readMouth_1 rec (l.getD 0 0) (l.getD 1 0) h else if k = 2 then b_X7_readMouth_2 rec (l.getD 0 0) h else if k = 3 then b_X7_readMouth_3 rec (l.getD 0 0) h else if k = 4 then b_X7_readMouth_4 rec (l.getD 0 0) (l.getD 1 0) h else if k = 5 then b_X7_readMouth_5 rec  h else if k = 6 then b_X7_readMouth_6 rec (l.getD 0 0) (l.getD 1 0) h else if k = 7 then b_X7_readMouth_7 rec (l.getD 0 0) (l.getD 1 0) (l.getD 2 0) (l.getD 3 0) h else none) n
noncomputable def f_X7_readMouth (x1 x2 : Int) (h : Hp) : Option (Int × Hp) := g_X7_readMouth FU 0 [x1, x2] h
set_option maxHeartbeats 4000000 in
set_option maxRecDepth 100000 in
theorem t_X7_readMouth_0 (E : xE) (d : Nat) (rec : Rk) (r : Int × Hp) (hr_11 : ∀ (x2 y0 : Int) (h : Hp), Lay h → rec 1 [x2, y0] h = some r → X E mX7_readMouth (d + 5) (0, 0) (0, 0) 11 [some (xr 7 0), none, some (xi x2), none, none, none] [xi y0] h (PoI r)) (x1 x2 : Int) (h : Hp) (hL : Lay h) (hF : b_X7_readMouth_0 rec x1 x2 h = some r) : X E mX7_readMouth (d + 5) (0, 0) (0, 0) 0 [some (xr 7 0), some (xi x1), some (xi x2), none, none, none] [] h (PoI r) := by
  unfold b_X7_readMouth_0 at hF
  refine x_iload_n (i := 1) (b := 1) dX7_readMouth_0 rfl rfl rfl ?_
  refine x_bipush (n := 11) (b := 3) dX7_readMouth_1 (by decide) rfl ?_
  refine x_icmp_ne (tgt := 10) (b := 6) dX7_readMouth_3 (by decide) rfl (fun hc => ?_) (fun hc => ?_)
  · replace hF := br_F hc hF
    refine x_iconst (n := 0) (b := 11) dX7_readMouth_10 (by decide) rfl ?_
    exact x_dp (ls2 := [some (xr 7 0), none, some (xi x2), none, none, none]) ⟨rfl, rfl, trivial⟩ (hr_11 x2 0 h hL hF)
  · replace hF := br_T hc hF
    refine x_iconst (n := 1) (b := 7) dX7_readMouth_6 (by decide) rfl ?_
    refine x_goto (tgt := 11) dX7_readMouth_7 (by decide) ?_
    exact x_dp (ls2 := [some (xr 7 0), none, some (xi x2), none, none, none]) ⟨rfl, rfl, trivial⟩ (hr_11 x2 1 h hL hF)
set_option maxHeartbeats 4000000 in
set_option maxRecDepth 100000 in
theorem t_X7_readMouth_1 (E : xE) (d : Nat) (rec : Rk) (r : Int × Hp) (hr_41 : ∀ (x2 : Int) (h : Hp), Lay h → rec 2 [x2] h = some r → X E mX7_readMouth (d + 5) (0, 0) (0, 0) 41 [some (xr 7 0), none, some (xi x2), none, none, none] [] h (PoI r)) (hr_48 : ∀ (x3 : Int) (h : Hp), Lay h → rec 3 [x3] h = some r → X E mX7_readMouth (d + 5) (0, 0) (0, 0) 48 [some (xr 7 0), none, none, some (xi x3), none, none] [] h (PoI r)) (x2 y0 : Int) (h : Hp) (hL : Lay h) (hF : b_X7_readMouth_1 rec x2 y0 h = some r) : X E mX7_readMouth (d + 5) (0, 0) (0, 0) 11 [some (xr 7 0), none, some (xi x2), none, none, none] [xi y0] h (PoI r) := by
  unfold b_X7_readMouth_1 at hF
  refine x_istore_n (i := 3) (b := 12) (ls2 := [some (xr 7 0), none, some (xi x2), some (xi y0), none, none]) dX7_readMouth_11 rfl (Nat.le_of_ble_eq_true rfl) rfl rfl ?_
  refine x_iload_n (i := 3) (b := 13) dX7_readMouth_12 rfl rfl rfl ?_
  refine x_if_eq (tgt := 30) (b := 16) dX7_readMouth_13 (by decide) rfl (fun hc => ?_) (fun hc => ?_)
  · replace hF := br_T hc hF
    refine x_aload_n (i := 0) (b := 31) dX7_readMouth_30 rfl rfl rfl ?_
    obtain ⟨j1, e_j1, hF⟩ := rf_e hF
    refine x_getR (v := some (0, j1)) (b := 34) fk_X7_76 dX7_readMouth_31 rfl e_j1 rfl ?_
    refine x_getI (v := gI h 0 j1 3) (b := 37) fk_X7_254 dX7_readMouth_34 (by decide) rfl rfl ?_
    refine x_iconst (n := 5) (b := 38) dX7_readMouth_37 (by decide) rfl ?_
    refine x_icmp_lt (tgt := 48) (b := 41) dX7_readMouth_38 (by decide) rfl (fun hc => ?_) (fun hc => ?_)
    · replace hF := br_T hc hF
      exact x_dp (ls2 := [some (xr 7 0), none, none, some (xi y0), none, none]) ⟨rfl, rfl, trivial⟩ (hr_48 y0 h hL hF)
    · replace hF := br_F hc hF
      exact x_dp (ls2 := [some (xr 7 0), none, some (xi x2), none, none, none]) ⟨rfl, rfl, trivial⟩ (hr_41 x2 h hL hF)
  · replace hF := br_F hc hF
    refine x_aload_n (i := 0) (b := 17) dX7_readMouth_16 rfl rfl rfl ?_
    obtain ⟨j2, e_j2, hF⟩ := rf_e hF
    refine x_getR (v := some (0, j2)) (b := 20) fk_X7_76 dX7_readMouth_17 rfl e_j2 rfl ?_
    refine x_getI (v := gI h 0 j2 4) (b := 23) fk_X7_251 dX7_readMouth_20 (by decide) rfl rfl ?_
    refine x_iconst (n := 4) (b := 24) dX7_readMouth_23 (by decide) rfl ?_
    refine x_icmp_lt (tgt := 48) (b := 27) dX7_readMouth_24 (by decide) rfl (fun hc => ?_) (fun hc => ?_)
    · replace hF := br_T hc hF
      exact x_dp (ls2 := [some (xr 7 0), none, none, some (xi y0), none, none]) ⟨rfl, rfl, trivial⟩ (hr_48 y0 h hL hF)
    · replace hF := br_F hc hF
      refine x_goto (tgt := 41) dX7_readMouth_27 (by decide) ?_
      exact x_dp (ls2 := [some (xr 7 0), none, some (xi x2), none, none, none]) ⟨rfl, rfl, trivial⟩ (hr_41 x2 h hL hF)
set_option maxHeartbeats 4000000 in
set_option maxRecDepth 100000 in
theorem t_X7_readMouth_2 (E : xE) (d : Nat) (rec : Rk) (r : Int × Hp) (x2 : Int) (h : Hp) (hL : Lay h) (hF : b_X7_readMouth_2 rec x2 h = some r) : X E mX7_readMouth (d + 5) (0, 0) (0, 0) 41 [some (xr 7 0), none, some (xi x2), none, none, none] [] h (PoI r) := by
  unfold b_X7_readMouth_2 at hF
  refine x_aload_n (i := 0) (b := 42) dX7_readMouth_41 rfl rfl rfl ?_
  refine x_iconst (n := 2) (b := 43) dX7_readMouth_42 (by decide) rfl ?_
  refine x_iload_n (i := 2) (b := 44) dX7_readMouth_43 rfl rfl rfl ?_
  obtain ⟨v1, h2, hq, hF⟩ := bd_e hF
  refine x_callV (as := [xi 2, xi x2]) (rest := []) (b := 47) (c_X7_wrong (d + 3) 2 x2 h _ hL hq) dX7_readMouth_44 cw_X7_149 ⟨_, _, rfl, Nat.le_of_ble_eq_true rfl⟩ rfl rfl (Nat.le_of_ble_eq_true rfl) ⟨Nat.le_refl _, Nat.le_refl _⟩ rfl (fun rv hh hp _ => ?_)
  obtain ⟨rfl, rfl, hL⟩ := hp
  obtain ⟨hs, hF⟩ := ck_e hF
  refine x_zreturn dX7_readMouth_47 rfl ⟨Nat.le_refl _, Nat.le_refl _⟩ hs ?_
  cases hF
  exact ⟨rfl, rfl, hL⟩
set_option maxHeartbeats 4000000 in
set_option maxRecDepth 100000 in
theorem t_X7_readMouth_3 (E : xE) (d : Nat) (rec : Rk) (r : Int × Hp) (hr_71 : ∀ (x3 y0 : Int) (h : Hp), Lay h → rec 4 [x3, y0] h = some r → X E mX7_readMouth (d + 5) (0, 0) (0, 0) 71 [some (xr 7 0), none, none, some (xi x3), none, none] [xi y0] h (PoI r)) (x3 : Int) (h : Hp) (hL : Lay h) (hF : b_X7_readMouth_3 rec x3 h = some r) : X E mX7_readMouth (d + 5) (0, 0) (0, 0) 48 [some (xr 7 0), none, none, some (xi x3), none, none] [] h (PoI r) := by
  unfold b_X7_readMouth_3 at hF
  refine x_iload_n (i := 3) (b := 49) dX7_readMouth_48 rfl rfl rfl ?_
  refine x_if_eq (tgt := 64) (b := 52) dX7_readMouth_49 (by decide) rfl (fun hc => ?_) (fun hc => ?_)
  · replace hF := br_T hc hF
    refine x_aload_n (i := 0) (b := 65) dX7_readMouth_64 rfl rfl rfl ?_
    obtain ⟨j1, e_j1, hF⟩ := rf_e hF
    refine x_getR (v := some (0, j1)) (b := 68) fk_X7_76 dX7_readMouth_65 rfl e_j1 rfl ?_
    refine x_getI (v := gI h 0 j1 3) (b := 71) fk_X7_254 dX7_readMouth_68 (by decide) rfl rfl ?_
    exact x_dp (ls2 := [some (xr 7 0), none, none, some (xi x3), none, none]) ⟨rfl, rfl, trivial⟩ (hr_71 x3 (gI h 0 j1 3) h hL hF)
  · replace hF := br_F hc hF
    refine x_iconst (n := 5) (b := 53) dX7_readMouth_52 (by decide) rfl ?_
    refine x_aload_n (i := 0) (b := 54) dX7_readMouth_53 rfl rfl rfl ?_
    obtain ⟨j2, e_j2, hF⟩ := rf_e hF
    refine x_getR (v := some (0, j2)) (b := 57) fk_X7_76 dX7_readMouth_54 rfl e_j2 rfl ?_
    refine x_getI (v := gI h 0 j2 4) (b := 60) fk_X7_251 dX7_readMouth_57 (by decide) rfl rfl ?_
    obtain ⟨hs, hF⟩ := ck_e hF
    refine x_iadd (b := 61) dX7_readMouth_60 hs rfl ?_
    refine x_goto (tgt := 71) dX7_readMouth_61 (by decide) ?_
    exact x_dp (ls2 := [some (xr 7 0), none, none, some (xi x3), none, none]) ⟨rfl, rfl, trivial⟩ (hr_71 x3 (5 + (gI h 0 j2 4)) h hL hF)
set_option maxHeartbeats 4000000 in
set_option maxRecDepth 100000 in
theorem t_X7_readMouth_4 (E : xE) (d : Nat) (rec : Rk) (r : Int × Hp) (hr_93 : ∀ (h : Hp), Lay h → rec 5 [] h = some r → X E mX7_readMouth (d + 5) (0, 0) (0, 0) 93 [some (xr 7 0), none, none, none, none, none] [] h (PoI r)) (hr_183 : ∀ (x3 x5 : Int) (h : Hp), Lay h → rec 6 [x3, x5] h = some r → X E mX7_readMouth (d + 5) (0, 0) (0, 0) 183 [some (xr 7 0), none, none, some (xi x3), none, some (xr 4 x5)] [] h (PoI r)) (x3 y0 : Int) (h : Hp) (hL : Lay h) (hF : b_X7_readMouth_4 rec x3 y0 h = some r) : X E mX7_readMouth (d + 5) (0, 0) (0, 0) 71 [some (xr 7 0), none, none, some (xi x3), none, none] [xi y0] h (PoI r) := by
  unfold b_X7_readMouth_4 at hF
  refine x_istore (i := 4) (b := 73) (ls2 := [some (xr 7 0), none, none, some (xi x3), some (xi y0), none]) dX7_readMouth_71 (Nat.le_of_ble_eq_true rfl) rfl rfl ?_
  refine x_aload_n (i := 0) (b := 74) dX7_readMouth_73 rfl rfl rfl ?_
  refine x_getI (v := gI h 7 0 6) (b := 77) fk_X7_26 dX7_readMouth_74 (by decide) rfl rfl ?_
  refine x_iconst (n := 1) (b := 78) dX7_readMouth_77 (by decide) rfl ?_
  refine x_icmp_ne (tgt := 93) (b := 81) dX7_readMouth_78 (by decide) rfl (fun hc => ?_) (fun hc => ?_)
  · replace hF := br_F hc hF
    exact x_dp (ls2 := [some (xr 7 0), none, none, none, none, none]) ⟨rfl, trivial⟩ (hr_93  h hL hF)
  · replace hF := br_T hc hF
    refine x_iload (i := 4) (b := 83) dX7_readMouth_81 rfl rfl ?_
    refine x_if_lt (tgt := 93) (b := 86) dX7_readMouth_83 (by decide) rfl (fun hc => ?_) (fun hc => ?_)
    · replace hF := br_T hc hF
      exact x_dp (ls2 := [some (xr 7 0), none, none, none, none, none]) ⟨rfl, trivial⟩ (hr_93  h hL hF)
    · replace hF := br_F hc hF
      refine x_iload (i := 4) (b := 88) dX7_readMouth_86 rfl rfl ?_
      refine x_bipush (n := 9) (b := 90) dX7_readMouth_88 (by decide) rfl ?_
      refine x_icmp_lt (tgt := 103) (b := 93) dX7_readMouth_90 (by decide) rfl (fun hc => ?_) (fun hc => ?_)
      · replace hF := br_T hc hF
        refine x_aload_n (i := 0) (b := 104) dX7_readMouth_103 rfl rfl rfl ?_
        refine x_aload_n (i := 0) (b := 105) dX7_readMouth_104 rfl rfl rfl ?_
        refine x_getI (v := gI h 7 0 8) (b := 108) fk_X7_32 dX7_readMouth_105 (by decide) rfl rfl ?_
        obtain ⟨v1, h2, hq, hF⟩ := bd_e hF
        refine x_callV (as := [xi (gI h 7 0 8)]) (rest := []) (b := 111) (c_X7_isCrewName (d + 3) (gI h 7 0 8) h _ hL hq) dX7_readMouth_108 cw_X7_257 ⟨_, _, rfl, Nat.le_of_ble_eq_true rfl⟩ rfl rfl (Nat.le_of_ble_eq_true rfl) ⟨Nat.le_refl _, Nat.le_refl _⟩ rfl (fun rv hh hp _ => ?_)
        obtain ⟨rfl, rfl, hL⟩ := hp
        refine x_if_eq (tgt := 124) (b := 114) dX7_readMouth_111 (by decide) rfl (fun hc => ?_) (fun hc => ?_)
        · replace hF := br_T hc hF
          refine x_aload_n (i := 0) (b := 125) dX7_readMouth_124 rfl rfl rfl ?_
          obtain ⟨j3, e_j3, hF⟩ := rf_e hF
          refine x_getR (v := some (0, j3)) (b := 128) fk_X7_76 dX7_readMouth_125 rfl e_j3 rfl ?_
          refine x_getL (j := j3) (t := (20, 0, true)) (b := 131) fk_X7_260 dX7_readMouth_128 rfl hL rfl rfl rfl ?_
          refine x_iload (i := 4) (b := 133) dX7_readMouth_131 rfl rfl ?_
          obtain ⟨hs, hF⟩ := ck_e hF
          obtain ⟨j4, e_j4, hF⟩ := rf_e hF
          refine x_aaldM (v := some (4, j4)) (b := 134) ak_20 dX7_readMouth_133 hs e_j4 rfl ?_
          refine x_astore (i := 5) (b := 136) (ls2 := [some (xr 7 0), none, none, some (xi x3), some (xi y0), some (xr 4 j4)]) dX7_readMouth_134 (Nat.le_of_ble_eq_true rfl) rfl rfl ?_
          refine x_aload (i := 5) (b := 138) dX7_readMouth_136 rfl rfl ?_
          refine x_aload_n (i := 0) (b := 139) dX7_readMouth_138 rfl rfl rfl ?_
          refine x_getI (v := gI h2 7 0 8) (b := 142) fk_X7_32 dX7_readMouth_139 (by decide) rfl rfl ?_
          obtain ⟨v5, h6, hq, hF⟩ := bd_e hF
          refine x_callV (as := [xi (gI h2 7 0 8)]) (rest := []) (b := 145) (c_X4_begin (d + 3) j4 (gI h2 7 0 8) h2 _ hL hq) dX7_readMouth_142 cw_X7_264 ⟨_, _, rfl, Nat.le_of_ble_eq_true rfl⟩ rfl rfl (Nat.le_of_ble_eq_true rfl) ⟨Nat.le_refl _, Nat.le_refl _⟩ rfl (fun rv hh hp _ => ?_)
          obtain ⟨rfl, rfl, hL⟩ := hp
          refine x_aload_n (i := 0) (b := 146) dX7_readMouth_145 rfl rfl rfl ?_
          obtain ⟨v7, h8, hq, hF⟩ := bd_e hF
          refine x_callV (as := []) (rest := []) (b := 149) (c_X7_advance (d + 3) h6 _ hL hq) dX7_readMouth_146 cw_X7_89 ⟨_, _, rfl, Nat.le_of_ble_eq_true rfl⟩ rfl rfl (Nat.le_of_ble_eq_true rfl) ⟨Nat.le_refl _, Nat.le_refl _⟩ rfl (fun rv hh hp _ => ?_)
          obtain ⟨rfl, rfl, hL⟩ := hp
          refine x_aload_n (i := 0) (b := 150) dX7_readMouth_149 rfl rfl rfl ?_
          refine x_iconst (n := 0) (b := 151) dX7_readMouth_150 (by decide) rfl ?_
          refine x_bipush (n := 9) (b := 153) dX7_readMouth_151 (by decide) rfl ?_
          obtain ⟨v9, h10, hq, hF⟩ := bd_e hF
          refine x_callV (as := [xi 0, xi 9]) (rest := []) (b := 156) (c_X7_readNumber (d + 2) 0 9 h8 _ hL hq) dX7_readMouth_153 cw_X7_167 ⟨_, _, rfl, Nat.le_of_ble_eq_true rfl⟩ rfl rfl (Nat.le_of_ble_eq_true rfl) ⟨Nat.le_refl _, Nat.le_refl _⟩ rfl (fun rv hh hp _ => ?_)
          obtain ⟨rfl, rfl, hL⟩ := hp
          refine x_if_ne (tgt := 161) (b := 159) dX7_readMouth_156 (by decide) rfl (fun hc => ?_) (fun hc => ?_)
          · replace hF := br_F hc hF
            refine x_aload (i := 5) (b := 163) dX7_readMouth_161 rfl rfl ?_
            refine x_aload_n (i := 0) (b := 164) dX7_readMouth_163 rfl rfl rfl ?_
            refine x_getI (v := gI h10 7 0 11) (b := 167) fk_X7_41 dX7_readMouth_164 (by decide) rfl rfl ?_
            refine x_putI (b := 170) fk_X7_269 dX7_readMouth_167 rfl rfl 1 rfl ?_
            obtain ⟨h11, e_h11, hF⟩ := lt_e hF
            refine x_hp (h2 := h11) e_h11 ?_
            replace hL : Lay h11 := by rw [← e_h11]; exact hL
            refine x_iload_n (i := 3) (b := 171) dX7_readMouth_170 rfl rfl rfl ?_
            refine x_if_eq (tgt := 183) (b := 174) dX7_readMouth_171 (by decide) rfl (fun hc => ?_) (fun hc => ?_)
            · replace hF := br_T hc hF
              exact x_dp (ls2 := [some (xr 7 0), none, none, some (xi x3), none, some (xr 4 j4)]) ⟨rfl, rfl, rfl, trivial⟩ (hr_183 x3 j4 h11 hL hF)
            · replace hF := br_F hc hF
              refine x_aload_n (i := 0) (b := 175) dX7_readMouth_174 rfl rfl rfl ?_
              refine x_aload (i := 5) (b := 177) dX7_readMouth_175 rfl rfl ?_
              obtain ⟨v12, h13, hq, hF⟩ := bd_e hF
              refine x_callV (as := [xr 4 j4]) (rest := []) (b := 180) (c_X7_readOdds (d + 1) j4 h11 _ hL hq) dX7_readMouth_177 cw_X7_272 ⟨_, _, rfl, Nat.le_of_ble_eq_true rfl⟩ rfl rfl (Nat.le_of_ble_eq_true rfl) ⟨Nat.le_refl _, Nat.le_refl _⟩ rfl (fun rv hh hp _ => ?_)
              obtain ⟨rfl, rfl, hL⟩ := hp
              refine x_if_eq (tgt := 201) (b := 183) dX7_readMouth_180 (by decide) rfl (fun hc => ?_) (fun hc => ?_)
              · replace hF := br_T hc hF
                refine x_iconst (n := 0) (b := 202) dX7_readMouth_201 (by decide) rfl ?_
                refine x_zreturn dX7_readMouth_202 rfl ⟨Nat.le_refl _, Nat.le_refl _⟩ (by decide) ?_
                cases hF
                exact ⟨rfl, rfl, hL⟩
              · replace hF := br_F hc hF
                exact x_dp (ls2 := [some (xr 7 0), none, none, some (xi x3), none, some (xr 4 j4)]) ⟨rfl, rfl, rfl, trivial⟩ (hr_183 x3 j4 h13 hL hF)
          · replace hF := br_T hc hF
            refine x_iconst (n := 0) (b := 160) dX7_readMouth_159 (by decide) rfl ?_
            refine x_zreturn dX7_readMouth_160 rfl ⟨Nat.le_refl _, Nat.le_refl _⟩ (by decide) ?_
            cases hF
            exact ⟨rfl, rfl, hL⟩
        · replace hF := br_F hc hF
          refine x_aload_n (i := 0) (b := 115) dX7_readMouth_114 rfl rfl rfl ?_
          refine x_iconst (n := 3) (b := 116) dX7_readMouth_115 (by decide) rfl ?_
          refine x_aload_n (i := 0) (b := 117) dX7_readMouth_116 rfl rfl rfl ?_
          refine x_getI (v := gI h2 7 0 7) (b := 120) fk_X7_29 dX7_readMouth_117 (by decide) rfl rfl ?_
          obtain ⟨v14, h15, hq, hF⟩ := bd_e hF
          refine x_callV (as := [xi 3, xi (gI h2 7 0 7)]) (rest := []) (b := 123) (c_X7_wrong (d + 3) 3 (gI h2 7 0 7) h2 _ hL hq) dX7_readMouth_120 cw_X7_149 ⟨_, _, rfl, Nat.le_of_ble_eq_true rfl⟩ rfl rfl (Nat.le_of_ble_eq_true rfl) ⟨Nat.le_refl _, Nat.le_refl _⟩ rfl (fun rv hh hp _ => ?_)
          obtain ⟨rfl, rfl, hL⟩ := hp
          obtain ⟨hs, hF⟩ := ck_e hF
          refine x_zreturn dX7_readMouth_123 rfl ⟨Nat.le_refl _, Nat.le_refl _⟩ hs ?_
          cases hF
          exact ⟨rfl, rfl, hL⟩
      · replace hF := br_F hc hF
        exact x_dp (ls2 := [some (xr 7 0), none, none, none, none, none]) ⟨rfl, trivial⟩ (hr_93  h hL hF)
set_option maxHeartbeats 4000000 in
set_option maxRecDepth 100000 in
theorem t_X7_readMouth_5 (E : xE) (d : Nat) (rec : Rk) (r : Int × Hp) (h : Hp) (hL : Lay h) (hF : b_X7_readMouth_5 rec  h = some r) : X E mX7_readMouth (d + 5) (0, 0) (0, 0) 93 [some (xr 7 0), none, none, none, none, none] [] h (PoI r) := by
  unfold b_X7_readMouth_5 at hF
  refine x_aload_n (i := 0) (b := 94) dX7_readMouth_93 rfl rfl rfl ?_
  refine x_iconst (n := 1) (b := 95) dX7_readMouth_94 (by decide) rfl ?_
  refine x_aload_n (i := 0) (b := 96) dX7_readMouth_95 rfl rfl rfl ?_
  refine x_getI (v := gI h 7 0 7) (b := 99) fk_X7_29 dX7_readMouth_96 (by decide) rfl rfl ?_
  obtain ⟨v1, h2, hq, hF⟩ := bd_e hF
  refine x_callV (as := [xi 1, xi (gI h 7 0 7)]) (rest := []) (b := 102) (c_X7_wrong (d + 3) 1 (gI h 7 0 7) h _ hL hq) dX7_readMouth_99 cw_X7_149 ⟨_, _, rfl, Nat.le_of_ble_eq_true rfl⟩ rfl rfl (Nat.le_of_ble_eq_true rfl) ⟨Nat.le_refl _, Nat.le_refl _⟩ rfl (fun rv hh hp _ => ?_)
  obtain ⟨rfl, rfl, hL⟩ := hp
  obtain ⟨hs, hF⟩ := ck_e hF
  refine x_zreturn dX7_readMouth_102 rfl ⟨Nat.le_refl _, Nat.le_refl _⟩ hs ?_
  cases hF
  exact ⟨rfl, rfl, hL⟩
set_option maxHeartbeats 4000000 in
set_option maxRecDepth 100000 in
theorem t_X7_readMouth_6 (E : xE) (d : Nat) (rec : Rk) (r : Int × Hp) (hr_220 : ∀ (x3 y0 y1 y2 : Int) (h : Hp), Lay h → rec 7 [x3, y0, y1, y2] h = some r → X E mX7_readMouth (d + 5) (0, 0) (0, 0) 220 [some (xr 7 0), none, none, some (xi x3), none, none] [xi y0, xi y1, xr 0 y2] h (PoI r)) (x3 x5 : Int) (h : Hp) (hL : Lay h) (hF : b_X7_readMouth_6 rec x3 x5 h = some r) : X E mX7_readMouth (d + 5) (0, 0) (0, 0) 183 [some (xr 7 0), none, none, some (xi x3), none, some (xr 4 x5)] [] h (PoI r) := by
  unfold b_X7_readMouth_6 at hF
  refine x_aload_n (i := 0) (b := 184) dX7_readMouth_183 rfl rfl rfl ?_
  refine x_aload (i := 5) (b := 186) dX7_readMouth_184 rfl rfl ?_
  obtain ⟨v1, h2, hq, hF⟩ := bd_e hF
  refine x_callV (as := [xr 4 x5]) (rest := []) (b := 189) (c_X7_readRest d x5 h _ hL hq) dX7_readMouth_186 cw_X7_276 ⟨_, _, rfl, Nat.le_of_ble_eq_true rfl⟩ rfl rfl (Nat.le_of_ble_eq_true rfl) ⟨Nat.le_refl _, Nat.le_refl _⟩ rfl (fun rv hh hp _ => ?_)
  obtain ⟨rfl, rfl, hL⟩ := hp
  refine x_if_eq (tgt := 201) (b := 192) dX7_readMouth_189 (by decide) rfl (fun hc => ?_) (fun hc => ?_)
  · replace hF := br_T hc hF
    refine x_iconst (n := 0) (b := 202) dX7_readMouth_201 (by decide) rfl ?_
    refine x_zreturn dX7_readMouth_202 rfl ⟨Nat.le_refl _, Nat.le_refl _⟩ (by decide) ?_
    cases hF
    exact ⟨rfl, rfl, hL⟩
  · replace hF := br_F hc hF
    refine x_aload_n (i := 0) (b := 193) dX7_readMouth_192 rfl rfl rfl ?_
    refine x_aload (i := 5) (b := 195) dX7_readMouth_193 rfl rfl ?_
    obtain ⟨v3, h4, hq, hF⟩ := bd_e hF
    refine x_callV (as := [xr 4 x5]) (rest := []) (b := 198) (c_X7_readExpression d x5 h2 _ hL hq) dX7_readMouth_195 cw_X7_279 ⟨_, _, rfl, Nat.le_of_ble_eq_true rfl⟩ rfl rfl (Nat.le_of_ble_eq_true rfl) ⟨Nat.le_refl _, Nat.le_refl _⟩ rfl (fun rv hh hp _ => ?_)
    obtain ⟨rfl, rfl, hL⟩ := hp
    refine x_if_ne (tgt := 203) (b := 201) dX7_readMouth_198 (by decide) rfl (fun hc => ?_) (fun hc => ?_)
    · replace hF := br_F hc hF
      refine x_aload_n (i := 0) (b := 204) dX7_readMouth_203 rfl rfl rfl ?_
      obtain ⟨j5, e_j5, hF⟩ := rf_e hF
      refine x_getR (v := some (0, j5)) (b := 207) fk_X7_76 dX7_readMouth_204 rfl e_j5 rfl ?_
      refine x_dup (b := 208) dX7_readMouth_207 rfl rfl ?_
      refine x_getI (v := gI h4 0 j5 4) (b := 211) fk_X7_251 dX7_readMouth_208 (by decide) rfl rfl ?_
      refine x_iload_n (i := 3) (b := 212) dX7_readMouth_211 rfl rfl rfl ?_
      refine x_if_eq (tgt := 219) (b := 215) dX7_readMouth_212 (by decide) rfl (fun hc => ?_) (fun hc => ?_)
      · replace hF := br_T hc hF
        refine x_iconst (n := 0) (b := 220) dX7_readMouth_219 (by decide) rfl ?_
        exact x_dp (ls2 := [some (xr 7 0), none, none, some (xi x3), none, none]) ⟨rfl, rfl, trivial⟩ (hr_220 x3 0 (gI h4 0 j5 4) j5 h4 hL hF)
      · replace hF := br_F hc hF
        refine x_iconst (n := 1) (b := 216) dX7_readMouth_215 (by decide) rfl ?_
        refine x_goto (tgt := 220) dX7_readMouth_216 (by decide) ?_
        exact x_dp (ls2 := [some (xr 7 0), none, none, some (xi x3), none, none]) ⟨rfl, rfl, trivial⟩ (hr_220 x3 1 (gI h4 0 j5 4) j5 h4 hL hF)
    · replace hF := br_T hc hF
      refine x_iconst (n := 0) (b := 202) dX7_readMouth_201 (by decide) rfl ?_
      refine x_zreturn dX7_readMouth_202 rfl ⟨Nat.le_refl _, Nat.le_refl _⟩ (by decide) ?_
      cases hF
      exact ⟨rfl, rfl, hL⟩
set_option maxHeartbeats 4000000 in
set_option maxRecDepth 100000 in
theorem t_X7_readMouth_7 (E : xE) (d : Nat) (rec : Rk) (r : Int × Hp) (x3 y0 y1 y2 : Int) (h : Hp) (hL : Lay h) (hF : b_X7_readMouth_7 rec x3 y0 y1 y2 h = some r) : X E mX7_readMouth (d + 5) (0, 0) (0, 0) 220 [some (xr 7 0), none, none, some (xi x3), none, none] [xi y0, xi y1, xr 0 y2] h (PoI r) := by
  unfold b_X7_readMouth_7 at hF
  obtain ⟨hs, hF⟩ := ck_e hF
  refine x_iadd (b := 221) dX7_readMouth_220 hs rfl ?_
  refine x_putI (b := 224) fk_X7_251 dX7_readMouth_221 rfl rfl 4 rfl ?_
  obtain ⟨h1, e_h1, hF⟩ := lt_e hF
  refine x_hp (h2 := h1) e_h1 ?_
  replace hL : Lay h1 := by rw [← e_h1]; exact hL
  refine x_aload_n (i := 0) (b := 225) dX7_readMouth_224 rfl rfl rfl ?_
  obtain ⟨j2, e_j2, hF⟩ := rf_e hF
  refine x_getR (v := some (0, j2)) (b := 228) fk_X7_76 dX7_readMouth_225 rfl e_j2 rfl ?_
  refine x_dup (b := 229) dX7_readMouth_228 rfl rfl ?_
  refine x_getI (v := gI h1 0 j2 3) (b := 232) fk_X7_254 dX7_readMouth_229 (by decide) rfl rfl ?_
  refine x_iload_n (i := 3) (b := 233) dX7_readMouth_232 rfl rfl rfl ?_
  refine x_if_eq (tgt := 240) (b := 236) dX7_readMouth_233 (by decide) rfl (fun hc => ?_) (fun hc => ?_)
  · replace hF := br_T hc hF
    refine x_iconst (n := 1) (b := 241) dX7_readMouth_240 (by decide) rfl ?_
    obtain ⟨hs, hF⟩ := ck_e hF
    refine x_iadd (b := 242) dX7_readMouth_241 hs rfl ?_
    refine x_putI (b := 245) fk_X7_254 dX7_readMouth_242 rfl rfl 3 rfl ?_
    obtain ⟨h3, e_h3, hF⟩ := lt_e hF
    refine x_hp (h2 := h3) e_h3 ?_
    replace hL : Lay h3 := by rw [← e_h3]; exact hL
    refine x_iconst (n := 1) (b := 246) dX7_readMouth_245 (by decide) rfl ?_
    refine x_zreturn dX7_readMouth_246 rfl ⟨Nat.le_refl _, Nat.le_refl _⟩ (by decide) ?_
    cases hF
    exact ⟨rfl, rfl, hL⟩
  · replace hF := br_F hc hF
    refine x_iconst (n := 0) (b := 237) dX7_readMouth_236 (by decide) rfl ?_
    refine x_goto (tgt := 241) dX7_readMouth_237 (by decide) ?_
    obtain ⟨hs, hF⟩ := ck_e hF
    refine x_iadd (b := 242) dX7_readMouth_241 hs rfl ?_
    refine x_putI (b := 245) fk_X7_254 dX7_readMouth_242 rfl rfl 3 rfl ?_
    obtain ⟨h4, e_h4, hF⟩ := lt_e hF
    refine x_hp (h2 := h4) e_h4 ?_
    replace hL : Lay h4 := by rw [← e_h4]; exact hL
    refine x_iconst (n := 1) (b := 246) dX7_readMouth_245 (by decide) rfl ?_
    refine x_zreturn dX7_readMouth_246 rfl ⟨Nat.le_refl _, Nat.le_refl _⟩ (by decide) ?_
    cases hF
    exact ⟨rfl, rfl, hL⟩
set_option maxHeartbeats 4000000 in
set_option maxRecDepth 100000 in
theorem u_X7_readMouth (E : xE) (d : Nat) (r : Int × Hp) : ∀ n : Nat, (∀ (x1 x2 : Int) (h : Hp), Lay h → g_X7_readMouth n 0 [x1, x2] h = some r → X E mX7_readMouth (d + 5) (0, 0) (0, 0) 0 [some (xr 7 0), some (xi x1), some (xi x2), none, none, none] [] h (PoI r)) ∧ (∀ (x2 y0 : Int) (h : Hp), Lay h → g_X7_readMouth n 1 [x2, y0] h = some r → X E mX7_readMouth (d + 5) (0, 0) (0, 0) 11 [some (xr 7 0), none, some (xi x2), none, none, none] [xi y0] h (PoI r)) ∧ (∀ (x2 : Int) (h : Hp), Lay h → g_X7_readMouth n 2 [x2] h = some r → X E mX7_readMouth (d + 5) (0, 0) (0, 0) 41 [some (xr 7 0), none, some (xi x2), none, none, none] [] h (PoI r)) ∧ (∀ (x3 : Int) (h : Hp), Lay h → g_X7_readMouth n 3 [x3] h = some r → X E mX7_readMouth (d + 5) (0, 0) (0, 0) 48 [some (xr 7 0), none, none, some (xi x3), none, none] [] h (PoI r)) ∧ (∀ (x3 y0 : Int) (h : Hp), Lay h → g_X7_readMouth n 4 [x3, y0] h = some r → X E mX7_readMouth (d + 5) (0, 0) (0, 0) 71 [some (xr 7 0), none, none, some (xi x3), none, none] [xi y0] h (PoI r)) ∧ (∀ (h : Hp), Lay h → g_X7_readMouth n 5 [] h = some r → X E mX7_readMouth (d + 5) (0, 0) (0, 0) 93 [some (xr 7 0), none, none, none, none, none] [] h (PoI r)) ∧ (∀ (x3 x5 : Int) (h : Hp), Lay h → g_X7_readMouth n 6 [x3, x5] h = some r → X E mX7_readMouth (d + 5) (0, 0) (0, 0) 183 [some (xr 7 0), none, none, some (xi x3), none, some (xr 4 x5)] [] h (PoI r)) ∧ (∀ (x3 y0 y1 y2 : Int) (h : Hp), Lay h → g_X7_readMouth n 7 [x3, y0, y1, y2] h = some r → X E mX7_readMouth (d + 5) (0, 0) (0, 0) 220 [some (xr 7 0), none, none, some (xi x3), none, none] [xi y0, xi y1, xr 0 y2] h (PoI r)) := by
  intro n
  induction n with
  | zero => exact ⟨fun _ _ _ _ hF => no_e (r := r) hF, fun _ _ _ _ hF => no_e (r := r) hF, fun _ _ _ hF => no_e (r := r) hF, fun _ _ _ hF => no_e (r := r) hF, fun _ _ _ _ hF => no_e (r := r) hF, fun _ _ hF => no_e (r := r) hF, fun _ _ _ _ hF => no_e (r := r) hF, fun _ _ _ _ _ _ hF => no_e (r := r) hF⟩
  | succ n ih => exact ⟨fun x1 x2 h hL hF => t_X7_readMouth_0 E d (g_X7_readMouth n) r ih.2.1 x1 x2 h hL hF, fun x2 y0 h hL hF => t_X7_readMouth_1 E d (g_X7_readMouth n) r ih.2.2.1 ih.2.2.2.1 x2 y0 h hL hF, fun x2 h hL hF => t_X7_readMouth_2 E d (g_X7_readMouth n) r  x2 h hL hF, fun x3 h hL hF => t_X7_readMouth_3 E d (g_X7_readMouth n) r ih.2.2.2.2.1 x3 h hL hF, fun x3 y0 h hL hF => t_X7_readMouth_4 E d (g_X7_readMouth n) r ih.2.2.2.2.2.1 ih.2.2.2.2.2.2.1 x3 y0 h hL hF, fun h hL hF => t_X7_readMouth_5 E d (g_X7_readMouth n) r   h hL hF, fun x3 x5 h hL hF => t_X7_readMouth_6 E d (g_X7_readMouth n) r ih.2.2.2.2.2.2.2 x3 x5 h hL hF, fun x3 y0 y1 y2 h hL hF => t_X7_readMouth_7 E d (g_X7_readMouth n) r  x3 y0 y1 y2 h hL hF⟩
theorem c_X7_readMouth (d : Nat) (x1 x2 : Int) (h : Hp) (r : Int × Hp) (hL : Lay h) (hF : f_X7_readMouth x1 x2 h = some r) : Sp mX7_readMouth (d + 5) (0, 0) [xr 7 0, xi x1, xi x2] h (PoI r) :=
  sp_of (by decide) rfl (Nat.le_of_ble_eq_true rfl) (ls := [some (xr 7 0), some (xi x1), some (xi x2), none, none, none]) rfl (fun E _ => (u_X7_readMouth E d r FU).1 x1 x2 h hL hF)
