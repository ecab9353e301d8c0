/-! LOOK of the class, where it doesn't throw -/
theorem dX11_look_0 : decode cX11_look 0 = .ok (.aload_n 0, 1) := by decide +kernel
theorem dX11_look_1 : decode cX11_look 1 = .ok (.getfield 20, 3) := by decide +kernel
theorem dX11_look_4 : decode cX11_look 4 = .ok (.iload_n 1, 1) := by decide +kernel
theorem dX11_look_5 : decode cX11_look 5 = .ok (.invokevirtual 135, 3) := by decide +kernel
theorem dX11_look_8 : decode cX11_look 8 = .ok (.ifCond .ne 13, 3) := by decide +kernel
theorem dX11_look_11 : decode cX11_look 11 = .ok (.new 139, 3) := by decide +kernel
theorem dX11_look_14 : decode cX11_look 14 = .ok (.dup, 1) := by decide +kernel
theorem dX11_look_15 : decode cX11_look 15 = .ok (.ldc 141, 2) := by decide +kernel
theorem dX11_look_17 : decode cX11_look 17 = .ok (.invokespecial 143, 3) := by decide +kernel
theorem dX11_look_20 : decode cX11_look 20 = .ok (.athrow, 1) := by decide +kernel
theorem dX11_look_21 : decode cX11_look 21 = .ok (.iload_n 2, 1) := by decide +kernel
theorem dX11_look_22 : decode cX11_look 22 = .ok (.tableswitch 114 0 4 #[34, 55, 68, 78, 90], 34) := by decide +kernel
theorem dX11_look_56 : decode cX11_look 56 = .ok (.aload_n 0, 1) := by decide +kernel
theorem dX11_look_57 : decode cX11_look 57 = .ok (.getfield 41, 3) := by decide +kernel
theorem dX11_look_60 : decode cX11_look 60 = .ok (.aload_n 0, 1) := by decide +kernel
theorem dX11_look_61 : decode cX11_look 61 = .ok (.getfield 57, 3) := by decide +kernel
theorem dX11_look_64 : decode cX11_look 64 = .ok (.iload_n 1, 1) := by decide +kernel
theorem dX11_look_65 : decode cX11_look 65 = .ok (.invokevirtual 146, 3) := by decide +kernel
theorem dX11_look_68 : decode cX11_look 68 = .ok (.ifCond .eq 7, 3) := by decide +kernel
theorem dX11_look_71 : decode cX11_look 71 = .ok (.iconst 1, 1) := by decide +kernel
theorem dX11_look_72 : decode cX11_look 72 = .ok (.goto 4, 3) := by decide +kernel
theorem dX11_look_75 : decode cX11_look 75 = .ok (.iconst 0, 1) := by decide +kernel
theorem dX11_look_76 : decode cX11_look 76 = .ok (.ireturn, 1) := by decide +kernel
theorem dX11_look_77 : decode cX11_look 77 = .ok (.aload_n 0, 1) := by decide +kernel
theorem dX11_look_78 : decode cX11_look 78 = .ok (.getfield 41, 3) := by decide +kernel
theorem dX11_look_81 : decode cX11_look 81 = .ok (.aload_n 0, 1) := by decide +kernel
theorem dX11_look_82 : decode cX11_look 82 = .ok (.getfield 57, 3) := by decide +kernel
theorem dX11_look_85 : decode cX11_look 85 = .ok (.iload_n 1, 1) := by decide +kernel
theorem dX11_look_86 : decode cX11_look 86 = .ok (.invokevirtual 150, 3) := by decide +kernel
theorem dX11_look_89 : decode cX11_look 89 = .ok (.ireturn, 1) := by decide +kernel
theorem dX11_look_90 : decode cX11_look 90 = .ok (.aload_n 0, 1) := by decide +kernel
theorem dX11_look_91 : decode cX11_look 91 = .ok (.getfield 57, 3) := by decide +kernel
theorem dX11_look_94 : decode cX11_look 94 = .ok (.getfield 154, 3) := by decide +kernel
theorem dX11_look_97 : decode cX11_look 97 = .ok (.iload_n 1, 1) := by decide +kernel
theorem dX11_look_98 : decode cX11_look 98 = .ok (.iaload, 1) := by decide +kernel
theorem dX11_look_99 : decode cX11_look 99 = .ok (.ireturn, 1) := by decide +kernel
theorem dX11_look_100 : decode cX11_look 100 = .ok (.aload_n 0, 1) := by decide +kernel
theorem dX11_look_101 : decode cX11_look 101 = .ok (.getfield 57, 3) := by decide +kernel
theorem dX11_look_104 : decode cX11_look 104 = .ok (.getfield 158, 3) := by decide +kernel
theorem dX11_look_107 : decode cX11_look 107 = .ok (.iload_n 1, 1) := by decide +kernel
theorem dX11_look_108 : decode cX11_look 108 = .ok (.ishr, 1) := by decide +kernel
theorem dX11_look_109 : decode cX11_look 109 = .ok (.iconst 1, 1) := by decide +kernel
theorem dX11_look_110 : decode cX11_look 110 = .ok (.iand, 1) := by decide +kernel
theorem dX11_look_111 : decode cX11_look 111 = .ok (.ireturn, 1) := by decide +kernel
theorem dX11_look_112 : decode cX11_look 112 = .ok (.aload_n 0, 1) := by decide +kernel
theorem dX11_look_113 : decode cX11_look 113 = .ok (.getfield 41, 3) := by decide +kernel
theorem dX11_look_116 : decode cX11_look 116 = .ok (.iload_n 1, 1) := by decide +kernel
theorem dX11_look_117 : decode cX11_look 117 = .ok (.aload_n 0, 1) := by decide +kernel
theorem dX11_look_118 : decode cX11_look 118 = .ok (.getfield 57, 3) := by decide +kernel
theorem dX11_look_121 : decode cX11_look 121 = .ok (.getfield 161, 3) := by decide +kernel
theorem dX11_look_124 : decode cX11_look 124 = .ok (.invokevirtual 164, 3) := by decide +kernel
theorem dX11_look_127 : decode cX11_look 127 = .ok (.ifCond .eq 7, 3) := by decide +kernel
theorem dX11_look_130 : decode cX11_look 130 = .ok (.iconst 1, 1) := by decide +kernel
theorem dX11_look_131 : decode cX11_look 131 = .ok (.goto 4, 3) := by decide +kernel
theorem dX11_look_134 : decode cX11_look 134 = .ok (.iconst 0, 1) := by decide +kernel
theorem dX11_look_135 : decode cX11_look 135 = .ok (.ireturn, 1) := by decide +kernel
theorem dX11_look_136 : decode cX11_look 136 = .ok (.new 168, 3) := by decide +kernel
theorem dX11_look_139 : decode cX11_look 139 = .ok (.dup, 1) := by decide +kernel
theorem dX11_look_140 : decode cX11_look 140 = .ok (.ldc 170, 2) := by decide +kernel
theorem dX11_look_142 : decode cX11_look 142 = .ok (.invokespecial 172, 3) := by decide +kernel
theorem dX11_look_145 : decode cX11_look 145 = .ok (.athrow, 1) := by decide +kernel
noncomputable def b_X11_look_0 (rec : Rk) (x1 x2 : Int) (h : Hp) : Option (Int × Hp) :=
  rf (gR h 11 0 2) 0 fun j1 =>
  bd (f_X0_isMouth j1 x1 h) fun v2 h3 =>
  if v2 = 0 then (
    none
  ) else (
    if x2 = 0 then (
      bd (f_X2_isAboard 0 x1 h3) fun v4 h5 =>
      if v4 = 0 then (
        some (0, h5)
      ) else (
        some (1, h5)
      )
    ) else (
    if x2 = 1 then (
      bd (f_X2_portion 0 x1 h3) fun v6 h7 =>
      some (v6, h7)
    ) else (
    if x2 = 2 then (
      ck (0 ≤ x1 ∧ x1 < 9) <|
      some (gI h3 57 0 x1, h3)
    ) else (
    if x2 = 3 then (
      some (band (bshr (gI h3 10 0 6) x1) 1, h3)
    ) else (
    if x2 = 4 then (
      bd (f_X2_isFed x1 (gI h3 10 0 4) h3) fun v8 h9 =>
      if v8 = 0 then (
        some (0, h9)
      ) else (
        some (1, h9)
      )
    ) else (
    none
    )
    )
    )
    )
    )
  )
noncomputable def g_X11_look (n : Nat) : Rk := Nat.rec (motive := fun _ => Rk) (fun _ _ _ => none) (fun _ rec k l h => if k = 0 then b_X11_look_0 rec (l.getD 0 0) (l.getD 1 0) h else none) n
noncomputable def f_X11_look (x1 x2 : Int) (h : Hp) : Option (Int × Hp) := g_X11_look FU 0 [x1, x2] h
set_option maxHeartbeats 4000000 in
set_option maxRecDepth 100000 in
theorem t_X11_look_0 (E : xE) (d : Nat) (rec : Rk) (r : Int × Hp) (x1 x2 : Int) (h : Hp) (hL : Lay h) (hF : b_X11_look_0 rec x1 x2 h = some r) : X E mX11_look (d + 4) (0, 0) (0, 0) 0 [some (xr 11 0), some (xi x1), some (xi x2)] [] h (PoI r) := by
  unfold b_X11_look_0 at hF
  refine x_aload_n (i := 0) (b := 1) dX11_look_0 rfl rfl rfl ?_
  obtain ⟨j1, e_j1, hF⟩ := rf_e hF
  refine x_getR (v := some (0, j1)) (b := 4) fk_X11_20 dX11_look_1 rfl e_j1 rfl ?_
  refine x_iload_n (i := 1) (b := 5) dX11_look_4 rfl rfl rfl ?_
  obtain ⟨v2, h3, hq, hF⟩ := bd_e hF
  refine x_callV (as := [xi x1]) (rest := []) (b := 8) (c_X0_isMouth (d + 1) j1 x1 h _ hL hq) dX11_look_5 cw_X11_135 ⟨_, _, rfl, Nat.le_of_ble_eq_true rfl⟩ rfl rfl (Nat.le_of_ble_eq_true rfl) ⟨Nat.le_refl _, Nat.le_refl _⟩ rfl (fun rv hh hp _ => ?_)
  obtain ⟨rfl, rfl, hL⟩ := hp
  refine x_if_ne (tgt := 21) (b := 11) dX11_look_8 (by decide) rfl (fun hc => ?_) (fun hc => ?_)
  · replace hF := br_F hc hF
    refine x_iload_n (i := 2) (b := 22) dX11_look_21 rfl rfl rfl ?_
    by_cases hw22_0 : x2 = 0
    · replace hF := br_T hw22_0 hF
      refine x_tableIn (tgt := 56) dX11_look_22 0 hw22_0 ⟨by decide, by decide⟩ rfl (by decide) ?_
      refine x_aload_n (i := 0) (b := 57) dX11_look_56 rfl rfl rfl ?_
      refine x_getL (j := 0) (t := (2, 0, false)) (b := 60) fk_X11_41 dX11_look_57 rfl hL rfl rfl rfl ?_
      refine x_aload_n (i := 0) (b := 61) dX11_look_60 rfl rfl rfl ?_
      refine x_getL (j := 0) (t := (10, 0, false)) (b := 64) fk_X11_57 dX11_look_61 rfl hL rfl rfl rfl ?_
      refine x_iload_n (i := 1) (b := 65) dX11_look_64 rfl rfl rfl ?_
      obtain ⟨v4, h5, hq, hF⟩ := bd_e hF
      refine x_callV (as := [xr 10 0, xi x1]) (rest := []) (b := 68) (c_X2_isAboard d 0 x1 h3 _ hL hq) dX11_look_65 cw_X11_146 ⟨_, _, rfl, Nat.le_of_ble_eq_true rfl⟩ rfl rfl (Nat.le_of_ble_eq_true rfl) ⟨Nat.le_refl _, Nat.le_refl _⟩ rfl (fun rv hh hp _ => ?_)
      obtain ⟨rfl, rfl, hL⟩ := hp
      refine x_if_eq (tgt := 75) (b := 71) dX11_look_68 (by decide) rfl (fun hc => ?_) (fun hc => ?_)
      · replace hF := br_T hc hF
        refine x_iconst (n := 0) (b := 76) dX11_look_75 (by decide) rfl ?_
        refine x_ireturn dX11_look_76 rfl ⟨Nat.le_refl _, Nat.le_refl _⟩ ?_
        cases hF
        exact ⟨rfl, rfl, hL⟩
      · replace hF := br_F hc hF
        refine x_iconst (n := 1) (b := 72) dX11_look_71 (by decide) rfl ?_
        refine x_goto (tgt := 76) dX11_look_72 (by decide) ?_
        refine x_ireturn dX11_look_76 rfl ⟨Nat.le_refl _, Nat.le_refl _⟩ ?_
        cases hF
        exact ⟨rfl, rfl, hL⟩
    replace hF := br_F hw22_0 hF
    by_cases hw22_1 : x2 = 1
    · replace hF := br_T hw22_1 hF
      refine x_tableIn (tgt := 77) dX11_look_22 1 hw22_1 ⟨by decide, by decide⟩ rfl (by decide) ?_
      refine x_aload_n (i := 0) (b := 78) dX11_look_77 rfl rfl rfl ?_
      refine x_getL (j := 0) (t := (2, 0, false)) (b := 81) fk_X11_41 dX11_look_78 rfl hL rfl rfl rfl ?_
      refine x_aload_n (i := 0) (b := 82) dX11_look_81 rfl rfl rfl ?_
      refine x_getL (j := 0) (t := (10, 0, false)) (b := 85) fk_X11_57 dX11_look_82 rfl hL rfl rfl rfl ?_
      refine x_iload_n (i := 1) (b := 86) dX11_look_85 rfl rfl rfl ?_
      obtain ⟨v6, h7, hq, hF⟩ := bd_e hF
      refine x_callV (as := [xr 10 0, xi x1]) (rest := []) (b := 89) (c_X2_portion d 0 x1 h3 _ hL hq) dX11_look_86 cw_X11_150 ⟨_, _, rfl, Nat.le_of_ble_eq_true rfl⟩ rfl rfl (Nat.le_of_ble_eq_true rfl) ⟨Nat.le_refl _, Nat.le_refl _⟩ rfl (fun rv hh hp _ => ?_)
      obtain ⟨rfl, rfl, hL⟩ := hp
      refine x_ireturn dX11_look_89 rfl ⟨Nat.le_refl _, Nat.le_refl _⟩ ?_
      cases hF
      exact ⟨rfl, rfl, hL⟩
    replace hF := br_F hw22_1 hF
    by_cases hw22_2 : x2 = 2
    · replace hF := br_T hw22_2 hF
      refine x_tableIn (tgt := 90) dX11_look_22 2 hw22_2 ⟨by decide, by decide⟩ rfl (by decide) ?_
      refine x_aload_n (i := 0) (b := 91) dX11_look_90 rfl rfl rfl ?_
      refine x_getL (j := 0) (t := (10, 0, false)) (b := 94) fk_X11_57 dX11_look_91 rfl hL rfl rfl rfl ?_
      refine x_getL (j := 0) (t := (57, 0, true)) (b := 97) fk_X11_154 dX11_look_94 rfl hL rfl rfl rfl ?_
      refine x_iload_n (i := 1) (b := 98) dX11_look_97 rfl rfl rfl ?_
      obtain ⟨hs, hF⟩ := ck_e hF
      refine x_iald (v := gI h3 57 0 x1) (b := 99) ak_57 dX11_look_98 hs rfl rfl ?_
      refine x_ireturn dX11_look_99 rfl ⟨Nat.le_refl _, Nat.le_refl _⟩ ?_
      cases hF
      exact ⟨rfl, rfl, hL⟩
    replace hF := br_F hw22_2 hF
    by_cases hw22_3 : x2 = 3
    · replace hF := br_T hw22_3 hF
      refine x_tableIn (tgt := 100) dX11_look_22 3 hw22_3 ⟨by decide, by decide⟩ rfl (by decide) ?_
      refine x_aload_n (i := 0) (b := 101) dX11_look_100 rfl rfl rfl ?_
      refine x_getL (j := 0) (t := (10, 0, false)) (b := 104) fk_X11_57 dX11_look_101 rfl hL rfl rfl rfl ?_
      refine x_getI (v := gI h3 10 0 6) (b := 107) fk_X11_158 dX11_look_104 (by decide) rfl rfl ?_
      refine x_iload_n (i := 1) (b := 108) dX11_look_107 rfl rfl rfl ?_
      refine x_ishr (b := 109) dX11_look_108 rfl ?_
      refine x_iconst (n := 1) (b := 110) dX11_look_109 (by decide) rfl ?_
      refine x_iand (b := 111) dX11_look_110 rfl ?_
      refine x_ireturn dX11_look_111 rfl ⟨Nat.le_refl _, Nat.le_refl _⟩ ?_
      cases hF
      exact ⟨rfl, rfl, hL⟩
    replace hF := br_F hw22_3 hF
    by_cases hw22_4 : x2 = 4
    · replace hF := br_T hw22_4 hF
      refine x_tableIn (tgt := 112) dX11_look_22 4 hw22_4 ⟨by decide, by decide⟩ rfl (by decide) ?_
      refine x_aload_n (i := 0) (b := 113) dX11_look_112 rfl rfl rfl ?_
      refine x_getL (j := 0) (t := (2, 0, false)) (b := 116) fk_X11_41 dX11_look_113 rfl hL rfl rfl rfl ?_
      refine x_iload_n (i := 1) (b := 117) dX11_look_116 rfl rfl rfl ?_
      refine x_aload_n (i := 0) (b := 118) dX11_look_117 rfl rfl rfl ?_
      refine x_getL (j := 0) (t := (10, 0, false)) (b := 121) fk_X11_57 dX11_look_118 rfl hL rfl rfl rfl ?_
      refine x_getI (v := gI h3 10 0 4) (b := 124) fk_X11_161 dX11_look_121 (by decide) rfl rfl ?_
      obtain ⟨v8, h9, hq, hF⟩ := bd_e hF
      refine x_callV (as := [xi x1, xi (gI h3 10 0 4)]) (rest := []) (b := 127) (c_X2_isFed (d + 2) x1 (gI h3 10 0 4) h3 _ hL hq) dX11_look_124 cw_X11_164 ⟨_, _, rfl, Nat.le_of_ble_eq_true rfl⟩ rfl rfl (Nat.le_of_ble_eq_true rfl) ⟨Nat.le_refl _, Nat.le_refl _⟩ rfl (fun rv hh hp _ => ?_)
      obtain ⟨rfl, rfl, hL⟩ := hp
      refine x_if_eq (tgt := 134) (b := 130) dX11_look_127 (by decide) rfl (fun hc => ?_) (fun hc => ?_)
      · replace hF := br_T hc hF
        refine x_iconst (n := 0) (b := 135) dX11_look_134 (by decide) rfl ?_
        refine x_ireturn dX11_look_135 rfl ⟨Nat.le_refl _, Nat.le_refl _⟩ ?_
        cases hF
        exact ⟨rfl, rfl, hL⟩
      · replace hF := br_F hc hF
        refine x_iconst (n := 1) (b := 131) dX11_look_130 (by decide) rfl ?_
        refine x_goto (tgt := 135) dX11_look_131 (by decide) ?_
        refine x_ireturn dX11_look_135 rfl ⟨Nat.le_refl _, Nat.le_refl _⟩ ?_
        cases hF
        exact ⟨rfl, rfl, hL⟩
    replace hF := br_F hw22_4 hF
    refine x_tableOut (tgt := 136) dX11_look_22 (by omega) (by decide) ?_
    exact no_e hF
  · replace hF := br_T hc hF
    exact no_e hF
set_option maxHeartbeats 4000000 in
set_option maxRecDepth 100000 in
theorem u_X11_look (E : xE) (d : Nat) (r : Int × Hp) : ∀ n : Nat, (∀ (x1 x2 : Int) (h : Hp), Lay h → g_X11_look n 0 [x1, x2] h = some r → X E mX11_look (d + 4) (0, 0) (0, 0) 0 [some (xr 11 0), some (xi x1), some (xi x2)] [] h (PoI r)) := by
  intro n
  induction n with
  | zero => exact fun _ _ _ _ hF => no_e (r := r) hF
  | succ n ih => exact fun x1 x2 h hL hF => t_X11_look_0 E d (g_X11_look n) r  x1 x2 h hL hF
theorem c_X11_look (d : Nat) (x1 x2 : Int) (h : Hp) (r : Int × Hp) (hL : Lay h) (hF : f_X11_look x1 x2 h = some r) : Sp mX11_look (d + 4) (0, 0) [xr 11 0, xi x1, xi x2] h (PoI r) :=
  sp_of (by decide) rfl (Nat.le_of_ble_eq_true rfl) (ls := [some (xr 11 0), some (xi x1), some (xi x2)]) rfl (fun E _ => (u_X11_look E d r FU) x1 x2 h hL hF)
theorem s_X11_look_0 {n : Nat} {a0 a1 : Int} {h : Hp} {Q : Int → Hp → Prop} (hn : 0 < n) (k : ok (b_X11_look_0 (g_X11_look (n - 1)) a0 a1 h) Q) : ok (g_X11_look n 0 [a0, a1] h) Q := by cases n with | zero => cases hn | succ m => exact k
theorem fuv_X11_look {x1 x2 : Int} {h : Hp} {Q : Int → Hp → Prop} (k : ∀ n : Nat, 100000000 ≤ n → ok (g_X11_look n 0 [x1, x2] h) Q) : ok (f_X11_look x1 x2 h) Q := k FU (by unfold FU; omega)
section
variable {h : Hp} {c : Int} {σ : Sg} {x1 x2 : Int}
theorem lk_0 (t : lkT (sC σ) x1 x2 = 0) : (0 ≤ x1 ∧ x1 < sz (sC σ)) ∧ 0 ≤ x2 ∧ x2 ≤ 4 := by
  unfold lkT at t
  by_cases z : 0 ≤ x1 ∧ x1 < sz (sC σ)
  · rw [if_pos z] at t
    by_cases z2 : 0 ≤ x2 ∧ x2 ≤ 4
    · exact ⟨z, z2⟩
    · rw [if_neg z2] at t; exact absurd t (by decide)
  · rw [if_neg z] at t; exact absurd t (by decide)
theorem lk_C (w : SW σ) (q : IC h c σ) (t : lkT (sC σ) x1 x2 = 0) : f_X11_look x1 x2 h = some (lkV (sC σ) (sV σ 0) x1 x2, h) := by
  have wC := sw_C w
  have hx := q.1.2.2.2
  have qc := hx.2.1
  have kv := q.2.2.1
  have g1 : gI h 2 0 1 = -1 := q.2.2.2.1.1
  have s9 := sz_r wC
  obtain ⟨t1, t2⟩ := lk_0 t
  refine ok_eq.mp (fuv_X11_look (fun n hn => ?_))
  refine s_X11_look_0 (by omega) ?_
  unfold b_X11_look_0
  refine ok_rf (j := c) q.1.1 (ok_be (p_X0_isMouth qc wC) (ok_f (fun u => b2i_0.mp u t1) ?_))
  by_cases y0 : x2 = 0
  · have ev : lkV (sC σ) (sV σ 0) x1 x2 = b2i (abP (sC σ) (sV σ 0) (-1) (-1) x1) := by unfold lkV; rw [if_pos y0]
    refine ok_t y0 (ok_be (p_X2_isAboard (tw := -1) (ta := -1) hx kv.1 g1 (fun z => absurd z (by decide)) t1.1 t1.2) (ok_if (fun u => ok_some ⟨?_, rfl⟩) (fun u => ok_some ⟨?_, rfl⟩)))
    · rw [ev]; exact u.symm
    · rw [ev]
      have y := b2i_n.mp u
      unfold b2i; rw [if_pos y]
  · refine ok_f y0 ?_
    by_cases y1 : x2 = 1
    · have ev : lkV (sC σ) (sV σ 0) x1 x2 = poF (sC σ) (sV σ 0) (-1) x1 := by unfold lkV; rw [if_neg y0, if_pos y1]
      refine ok_t y1 (ok_be (p_X2_portion hx kv.1 t1.1 t1.2) (ok_some ⟨?_, rfl⟩))
      rw [g1, ev]
    · refine ok_f y1 ?_
      by_cases y2 : x2 = 2
      · have ev : lkV (sC σ) (sV σ 0) x1 x2 = sV σ 0 8 x1 := by unfold lkV; rw [if_neg y0, if_neg y1, if_pos y2]
        refine ok_t y2 (ok_ck (by omega) (ok_some ⟨?_, rfl⟩))
        rw [ev]; exact iv_8 kv.1 x1 t1.1 t1.2
      · refine ok_f y2 ?_
        by_cases y3 : x2 = 3
        · have ev : lkV (sC σ) (sV σ 0) x1 x2 = sV σ 0 6 x1 := by unfold lkV; rw [if_neg y0, if_neg y1, if_neg y2, if_pos y3]
          refine ok_t y3 (ok_some ⟨?_, rfl⟩)
          rw [ev]; exact iv_6 kv.1 x1 t1.1 t1.2
        · have ev : lkV (sC σ) (sV σ 0) x1 x2 = b2i (fdP (sC σ) (sV σ 0 4) x1) := by unfold lkV; rw [if_neg y0, if_neg y1, if_neg y2, if_neg y3]
          refine ok_f y3 (ok_t (by omega) (ok_be (p_X2_isFed hx t1.1 (fun z => kv.2.2 x1 t1.1 z)) (ok_if (fun u => ok_some ⟨?_, rfl⟩) (fun u => ok_some ⟨?_, rfl⟩))))
          · rw [ev]; exact u.symm
          · rw [ev]
            have y := b2i_n.mp u
            unfold b2i; rw [if_pos y]
end
