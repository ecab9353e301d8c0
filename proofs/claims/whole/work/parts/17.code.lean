noncomputable def b_X12_half_r71_0 (rec : Rk) (h : Hp) : Option (Int × Hp) :=
  ck ((0 : Int) ≤ 18 ∧ (0 : Int) < 2) <|
  lt (18 / 2) fun z1 =>
  rec 1 [z1, 0] h
noncomputable def b_X12_half_r71_1 (rec : Rk) (x1 x2 : Int) (h : Hp) : Option (Int × Hp) :=
  if x1 ≤ x2 then (
    some (0, h)
  ) else (
    ck (-2147483648 ≤ x1 + x2 ∧ x1 + x2 < 2147483648) <|
    ck (0 ≤ (x1 + x2) ∧ (x1 + x2) < 18) <|
    ck (0 ≤ x2 ∧ x2 < 18) <|
    lt (sI h 71 0 x2 (gI h 71 0 (x1 + x2))) fun h1 =>
    ck (-2147483648 ≤ x2 + 1 ∧ x2 + 1 < 2147483648) <|
    rec 1 [x1, x2 + 1] h1
  )
noncomputable def g_X12_half_r71 (n : Nat) : Rk := Nat.rec (motive := fun _ => Rk) (fun _ _ _ => none) (fun _ rec k l h => if k = 0 then b_X12_half_r71_0 rec  h else if k = 1 then b_X12_half_r71_1 rec (l.getD 0 0) (l.getD 1 0) h else none) n
noncomputable def f_X12_half_r71 (h : Hp) : Option (Int × Hp) := g_X12_half_r71 FU 0 [] h
set_option maxHeartbeats 4000000 in
set_option maxRecDepth 100000 in
theorem t_X12_half_r71_0 (E : xE) (d : Nat) (rec : Rk) (r : Int × Hp) (hr_7 : ∀ (x1 x2 : Int) (h : Hp), Lay h → rec 1 [x1, x2] h = some r → X E mX12_half (d + 1) (0, 0) (0, 0) 7 [some (xr 71 0), some (xi x1), some (xi x2)] [] h (PoV r)) (h : Hp) (hL : Lay h) (hF : b_X12_half_r71_0 rec  h = some r) : X E mX12_half (d + 1) (0, 0) (0, 0) 0 [some (xr 71 0), none, none] [] h (PoV r) := by
  unfold b_X12_half_r71_0 at hF
  refine x_aload_n (i := 0) (b := 1) dX12_half_0 rfl rfl rfl ?_
  refine x_alen (kind := 0) (ct := 0) (b := 2) ak_71 (by decide) dX12_half_1 rfl ?_
  refine x_eq (y := 18) rfl ?_
  refine x_iconst (n := 2) (b := 3) dX12_half_2 (by decide) rfl ?_
  obtain ⟨hs, hF⟩ := ck_e hF
  refine x_idiv (b := 4) dX12_half_3 hs.1 hs.2 rfl ?_
  obtain ⟨z1, e_z1, hF⟩ := lt_e hF
  refine x_eq (y := z1) e_z1 ?_
  refine x_istore_n (i := 1) (b := 5) (ls2 := [some (xr 71 0), some (xi z1), none]) dX12_half_4 rfl (Nat.le_of_ble_eq_true rfl) rfl rfl ?_
  refine x_iconst (n := 0) (b := 6) dX12_half_5 (by decide) rfl ?_
  refine x_istore_n (i := 2) (b := 7) (ls2 := [some (xr 71 0), some (xi z1), some (xi 0)]) dX12_half_6 rfl (Nat.le_of_ble_eq_true rfl) rfl rfl ?_
  exact x_dp (ls2 := [some (xr 71 0), some (xi z1), some (xi 0)]) ⟨rfl, rfl, rfl, trivial⟩ (hr_7 z1 0 h hL hF)
set_option maxHeartbeats 4000000 in
set_option maxRecDepth 100000 in
theorem t_X12_half_r71_1 (E : xE) (d : Nat) (rec : Rk) (r : Int × Hp) (hr_7 : ∀ (x1 x2 : Int) (h : Hp), Lay h → rec 1 [x1, x2] h = some r → X E mX12_half (d + 1) (0, 0) (0, 0) 7 [some (xr 71 0), some (xi x1), some (xi x2)] [] h (PoV r)) (x1 x2 : Int) (h : Hp) (hL : Lay h) (hF : b_X12_half_r71_1 rec x1 x2 h = some r) : X E mX12_half (d + 1) (0, 0) (0, 0) 7 [some (xr 71 0), some (xi x1), some (xi x2)] [] h (PoV r) := by
  unfold b_X12_half_r71_1 at hF
  refine x_iload_n (i := 2) (b := 8) dX12_half_7 rfl rfl rfl ?_
  refine x_iload_n (i := 1) (b := 9) dX12_half_8 rfl rfl rfl ?_
  refine x_icmp_ge (tgt := 26) (b := 12) dX12_half_9 (by decide) rfl (fun hc => ?_) (fun hc => ?_)
  · replace hF := br_T hc hF
    refine x_return dX12_half_26 rfl ⟨Nat.le_refl _, Nat.le_refl _⟩ ?_
    cases hF
    exact ⟨rfl, rfl, hL⟩
  · replace hF := br_F hc hF
    refine x_aload_n (i := 0) (b := 13) dX12_half_12 rfl rfl rfl ?_
    refine x_iload_n (i := 2) (b := 14) dX12_half_13 rfl rfl rfl ?_
    refine x_aload_n (i := 0) (b := 15) dX12_half_14 rfl rfl rfl ?_
    refine x_iload_n (i := 1) (b := 16) dX12_half_15 rfl rfl rfl ?_
    refine x_iload_n (i := 2) (b := 17) dX12_half_16 rfl rfl rfl ?_
    obtain ⟨hs, hF⟩ := ck_e hF
    refine x_iadd (b := 18) dX12_half_17 hs rfl ?_
    obtain ⟨hs, hF⟩ := ck_e hF
    refine x_iald (v := gI h 71 0 (x1 + x2)) (b := 19) ak_71 dX12_half_18 hs rfl rfl ?_
    obtain ⟨hs, hF⟩ := ck_e hF
    have hs1 := hs
    refine x_iast (b := 20) ak_71 dX12_half_19 hs1 rfl ?_
    obtain ⟨h1, e_h1, hF⟩ := lt_e hF
    refine x_hp (h2 := h1) e_h1 ?_
    replace hL : Lay h1 := by rw [← e_h1]; exact hL
    obtain ⟨hs, hF⟩ := ck_e hF
    refine x_iinc (i := 2) (b := 23) (ls2 := [some (xr 71 0), some (xi x1), some (xi (x2 + 1))]) dX12_half_20 rfl (Nat.le_of_ble_eq_true rfl) hs rfl rfl ?_
    refine x_goto (tgt := 7) dX12_half_23 (by decide) ?_
    exact x_dp (ls2 := [some (xr 71 0), some (xi x1), some (xi (x2 + 1))]) ⟨rfl, rfl, rfl, trivial⟩ (hr_7 x1 (x2 + 1) h1 hL hF)
set_option maxHeartbeats 4000000 in
set_option maxRecDepth 100000 in
theorem u_X12_half_r71 (E : xE) (d : Nat) (r : Int × Hp) : ∀ n : Nat, (∀ (h : Hp), Lay h → g_X12_half_r71 n 0 [] h = some r → X E mX12_half (d + 1) (0, 0) (0, 0) 0 [some (xr 71 0), none, none] [] h (PoV r)) ∧ (∀ (x1 x2 : Int) (h : Hp), Lay h → g_X12_half_r71 n 1 [x1, x2] h = some r → X E mX12_half (d + 1) (0, 0) (0, 0) 7 [some (xr 71 0), some (xi x1), some (xi x2)] [] h (PoV r)) := by
  intro n
  induction n with
  | zero => exact ⟨fun _ _ hF => no_e (r := r) hF, fun _ _ _ _ hF => no_e (r := r) hF⟩
  | succ n ih => exact ⟨fun h hL hF => t_X12_half_r71_0 E d (g_X12_half_r71 n) r ih.2  h hL hF, fun x1 x2 h hL hF => t_X12_half_r71_1 E d (g_X12_half_r71 n) r ih.2 x1 x2 h hL hF⟩
theorem c_X12_half_r71 (d : Nat) (h : Hp) (r : Int × Hp) (hL : Lay h) (hF : f_X12_half_r71  h = some r) : Sp mX12_half (d + 1) (0, 0) [xr 71 0] h (PoV r) :=
  sp_of (by decide) rfl (Nat.le_of_ble_eq_true rfl) (ls := [some (xr 71 0), none, none]) rfl (fun E _ => (u_X12_half_r71 E d r FU).1  h hL hF)
noncomputable def b_X12_half_r72_0 (rec : Rk) (h : Hp) : Option (Int × Hp) :=
  ck ((0 : Int) ≤ 18 ∧ (0 : Int) < 2) <|
  lt (18 / 2) fun z1 =>
  rec 1 [z1, 0] h
noncomputable def b_X12_half_r72_1 (rec : Rk) (x1 x2 : Int) (h : Hp) : Option (Int × Hp) :=
  if x1 ≤ x2 then (
    some (0, h)
  ) else (
    ck (-2147483648 ≤ x1 + x2 ∧ x1 + x2 < 2147483648) <|
    ck (0 ≤ (x1 + x2) ∧ (x1 + x2) < 18) <|
    ck (0 ≤ x2 ∧ x2 < 18) <|
    lt (sI h 72 0 x2 (gI h 72 0 (x1 + x2))) fun h1 =>
    ck (-2147483648 ≤ x2 + 1 ∧ x2 + 1 < 2147483648) <|
    rec 1 [x1, x2 + 1] h1
  )
noncomputable def g_X12_half_r72 (n : Nat) : Rk := Nat.rec (motive := fun _ => Rk) (fun _ _ _ => none) (fun _ rec k l h => if k = 0 then b_X12_half_r72_0 rec  h else if k = 1 then b_X12_half_r72_1 rec (l.getD 0 0) (l.getD 1 0) h else none) n
noncomputable def f_X12_half_r72 (h : Hp) : Option (Int × Hp) := g_X12_half_r72 FU 0 [] h
set_option maxHeartbeats 4000000 in
set_option maxRecDepth 100000 in
theorem t_X12_half_r72_0 (E : xE) (d : Nat) (rec : Rk) (r : Int × Hp) (hr_7 : ∀ (x1 x2 : Int) (h : Hp), Lay h → rec 1 [x1, x2] h = some r → X E mX12_half (d + 1) (0, 0) (0, 0) 7 [some (xr 72 0), some (xi x1), some (xi x2)] [] h (PoV r)) (h : Hp) (hL : Lay h) (hF : b_X12_half_r72_0 rec  h = some r) : X E mX12_half (d + 1) (0, 0) (0, 0) 0 [some (xr 72 0), none, none] [] h (PoV r) := by
  unfold b_X12_half_r72_0 at hF
  refine x_aload_n (i := 0) (b := 1) dX12_half_0 rfl rfl rfl ?_
  refine x_alen (kind := 0) (ct := 0) (b := 2) ak_72 (by decide) dX12_half_1 rfl ?_
  refine x_eq (y := 18) rfl ?_
  refine x_iconst (n := 2) (b := 3) dX12_half_2 (by decide) rfl ?_
  obtain ⟨hs, hF⟩ := ck_e hF
  refine x_idiv (b := 4) dX12_half_3 hs.1 hs.2 rfl ?_
  obtain ⟨z1, e_z1, hF⟩ := lt_e hF
  refine x_eq (y := z1) e_z1 ?_
  refine x_istore_n (i := 1) (b := 5) (ls2 := [some (xr 72 0), some (xi z1), none]) dX12_half_4 rfl (Nat.le_of_ble_eq_true rfl) rfl rfl ?_
  refine x_iconst (n := 0) (b := 6) dX12_half_5 (by decide) rfl ?_
  refine x_istore_n (i := 2) (b := 7) (ls2 := [some (xr 72 0), some (xi z1), some (xi 0)]) dX12_half_6 rfl (Nat.le_of_ble_eq_true rfl) rfl rfl ?_
  exact x_dp (ls2 := [some (xr 72 0), some (xi z1), some (xi 0)]) ⟨rfl, rfl, rfl, trivial⟩ (hr_7 z1 0 h hL hF)
set_option maxHeartbeats 4000000 in
set_option maxRecDepth 100000 in
theorem t_X12_half_r72_1 (E : xE) (d : Nat) (rec : Rk) (r : Int × Hp) (hr_7 : ∀ (x1 x2 : Int) (h : Hp), Lay h → rec 1 [x1, x2] h = some r → X E mX12_half (d + 1) (0, 0) (0, 0) 7 [some (xr 72 0), some (xi x1), some (xi x2)] [] h (PoV r)) (x1 x2 : Int) (h : Hp) (hL : Lay h) (hF : b_X12_half_r72_1 rec x1 x2 h = some r) : X E mX12_half (d + 1) (0, 0) (0, 0) 7 [some (xr 72 0), some (xi x1), some (xi x2)] [] h (PoV r) := by
  unfold b_X12_half_r72_1 at hF
  refine x_iload_n (i := 2) (b := 8) dX12_half_7 rfl rfl rfl ?_
  refine x_iload_n (i := 1) (b := 9) dX12_half_8 rfl rfl rfl ?_
  refine x_icmp_ge (tgt := 26) (b := 12) dX12_half_9 (by decide) rfl (fun hc => ?_) (fun hc => ?_)
  · replace hF := br_T hc hF
    refine x_return dX12_half_26 rfl ⟨Nat.le_refl _, Nat.le_refl _⟩ ?_
    cases hF
    exact ⟨rfl, rfl, hL⟩
  · replace hF := br_F hc hF
    refine x_aload_n (i := 0) (b := 13) dX12_half_12 rfl rfl rfl ?_
    refine x_iload_n (i := 2) (b := 14) dX12_half_13 rfl rfl rfl ?_
    refine x_aload_n (i := 0) (b := 15) dX12_half_14 rfl rfl rfl ?_
    refine x_iload_n (i := 1) (b := 16) dX12_half_15 rfl rfl rfl ?_
    refine x_iload_n (i := 2) (b := 17) dX12_half_16 rfl rfl rfl ?_
    obtain ⟨hs, hF⟩ := ck_e hF
    refine x_iadd (b := 18) dX12_half_17 hs rfl ?_
    obtain ⟨hs, hF⟩ := ck_e hF
    refine x_iald (v := gI h 72 0 (x1 + x2)) (b := 19) ak_72 dX12_half_18 hs rfl rfl ?_
    obtain ⟨hs, hF⟩ := ck_e hF
    have hs1 := hs
    refine x_iast (b := 20) ak_72 dX12_half_19 hs1 rfl ?_
    obtain ⟨h1, e_h1, hF⟩ := lt_e hF
    refine x_hp (h2 := h1) e_h1 ?_
    replace hL : Lay h1 := by rw [← e_h1]; exact hL
    obtain ⟨hs, hF⟩ := ck_e hF
    refine x_iinc (i := 2) (b := 23) (ls2 := [some (xr 72 0), some (xi x1), some (xi (x2 + 1))]) dX12_half_20 rfl (Nat.le_of_ble_eq_true rfl) hs rfl rfl ?_
    refine x_goto (tgt := 7) dX12_half_23 (by decide) ?_
    exact x_dp (ls2 := [some (xr 72 0), some (xi x1), some (xi (x2 + 1))]) ⟨rfl, rfl, rfl, trivial⟩ (hr_7 x1 (x2 + 1) h1 hL hF)
set_option maxHeartbeats 4000000 in
set_option maxRecDepth 100000 in
theorem u_X12_half_r72 (E : xE) (d : Nat) (r : Int × Hp) : ∀ n : Nat, (∀ (h : Hp), Lay h → g_X12_half_r72 n 0 [] h = some r → X E mX12_half (d + 1) (0, 0) (0, 0) 0 [some (xr 72 0), none, none] [] h (PoV r)) ∧ (∀ (x1 x2 : Int) (h : Hp), Lay h → g_X12_half_r72 n 1 [x1, x2] h = some r → X E mX12_half (d + 1) (0, 0) (0, 0) 7 [some (xr 72 0), some (xi x1), some (xi x2)] [] h (PoV r)) := by
  intro n
  induction n with
  | zero => exact ⟨fun _ _ hF => no_e (r := r) hF, fun _ _ _ _ hF => no_e (r := r) hF⟩
  | succ n ih => exact ⟨fun h hL hF => t_X12_half_r72_0 E d (g_X12_half_r72 n) r ih.2  h hL hF, fun x1 x2 h hL hF => t_X12_half_r72_1 E d (g_X12_half_r72 n) r ih.2 x1 x2 h hL hF⟩
theorem c_X12_half_r72 (d : Nat) (h : Hp) (r : Int × Hp) (hL : Lay h) (hF : f_X12_half_r72  h = some r) : Sp mX12_half (d + 1) (0, 0) [xr 72 0] h (PoV r) :=
  sp_of (by decide) rfl (Nat.le_of_ble_eq_true rfl) (ls := [some (xr 72 0), none, none]) rfl (fun E _ => (u_X12_half_r72 E d r FU).1  h hL hF)
noncomputable def b_X12_half_r73_0 (rec : Rk) (h : Hp) : Option (Int × Hp) :=
  ck ((0 : Int) ≤ 18 ∧ (0 : Int) < 2) <|
  lt (18 / 2) fun z1 =>
  rec 1 [z1, 0] h
noncomputable def b_X12_half_r73_1 (rec : Rk) (x1 x2 : Int) (h : Hp) : Option (Int × Hp) :=
  if x1 ≤ x2 then (
    some (0, h)
  ) else (
    ck (-2147483648 ≤ x1 + x2 ∧ x1 + x2 < 2147483648) <|
    ck (0 ≤ (x1 + x2) ∧ (x1 + x2) < 18) <|
    ck (0 ≤ x2 ∧ x2 < 18) <|
    lt (sI h 73 0 x2 (gI h 73 0 (x1 + x2))) fun h1 =>
    ck (-2147483648 ≤ x2 + 1 ∧ x2 + 1 < 2147483648) <|
    rec 1 [x1, x2 + 1] h1
  )
noncomputable def g_X12_half_r73 (n : Nat) : Rk := Nat.rec (motive := fun _ => Rk) (fun _ _ _ => none) (fun _ rec k l h => if k = 0 then b_X12_half_r73_0 rec  h else if k = 1 then b_X12_half_r73_1 rec (l.getD 0 0) (l.getD 1 0) h else none) n
noncomputable def f_X12_half_r73 (h : Hp) : Option (Int × Hp) := g_X12_half_r73 FU 0 [] h
set_option maxHeartbeats 4000000 in
set_option maxRecDepth 100000 in
theorem t_X12_half_r73_0 (E : xE) (d : Nat) (rec : Rk) (r : Int × Hp) (hr_7 : ∀ (x1 x2 : Int) (h : Hp), Lay h → rec 1 [x1, x2] h = some r → X E mX12_half (d + 1) (0, 0) (0, 0) 7 [some (xr 73 0), some (xi x1), some (xi x2)] [] h (PoV r)) (h : Hp) (hL : Lay h) (hF : b_X12_half_r73_0 rec  h = some r) : X E mX12_half (d + 1) (0, 0) (0, 0) 0 [some (xr 73 0), none, none] [] h (PoV r) := by
  unfold b_X12_half_r73_0 at hF
  refine x_aload_n (i := 0) (b := 1) dX12_half_0 rfl rfl rfl ?_
  refine x_alen (kind := 0) (ct := 0) (b := 2) ak_73 (by decide) dX12_half_1 rfl ?_
  refine x_eq (y := 18) rfl ?_
  refine x_iconst (n := 2) (b := 3) dX12_half_2 (by decide) rfl ?_
  obtain ⟨hs, hF⟩ := ck_e hF
  refine x_idiv (b := 4) dX12_half_3 hs.1 hs.2 rfl ?_
  obtain ⟨z1, e_z1, hF⟩ := lt_e hF
  refine x_eq (y := z1) e_z1 ?_
  refine x_istore_n (i := 1) (b := 5) (ls2 := [some (xr 73 0), some (xi z1), none]) dX12_half_4 rfl (Nat.le_of_ble_eq_true rfl) rfl rfl ?_
  refine x_iconst (n := 0) (b := 6) dX12_half_5 (by decide) rfl ?_
  refine x_istore_n (i := 2) (b := 7) (ls2 := [some (xr 73 0), some (xi z1), some (xi 0)]) dX12_half_6 rfl (Nat.le_of_ble_eq_true rfl) rfl rfl ?_
  exact x_dp (ls2 := [some (xr 73 0), some (xi z1), some (xi 0)]) ⟨rfl, rfl, rfl, trivial⟩ (hr_7 z1 0 h hL hF)
set_option maxHeartbeats 4000000 in
set_option maxRecDepth 100000 in
theorem t_X12_half_r73_1 (E : xE) (d : Nat) (rec : Rk) (r : Int × Hp) (hr_7 : ∀ (x1 x2 : Int) (h : Hp), Lay h → rec 1 [x1, x2] h = some r → X E mX12_half (d + 1) (0, 0) (0, 0) 7 [some (xr 73 0), some (xi x1), some (xi x2)] [] h (PoV r)) (x1 x2 : Int) (h : Hp) (hL : Lay h) (hF : b_X12_half_r73_1 rec x1 x2 h = some r) : X E mX12_half (d + 1) (0, 0) (0, 0) 7 [some (xr 73 0), some (xi x1), some (xi x2)] [] h (PoV r) := by
  unfold b_X12_half_r73_1 at hF
  refine x_iload_n (i := 2) (b := 8) dX12_half_7 rfl rfl rfl ?_
  refine x_iload_n (i := 1) (b := 9) dX12_half_8 rfl rfl rfl ?_
  refine x_icmp_ge (tgt := 26) (b := 12) dX12_half_9 (by decide) rfl (fun hc => ?_) (fun hc => ?_)
  · replace hF := br_T hc hF
    refine x_return dX12_half_26 rfl ⟨Nat.le_refl _, Nat.le_refl _⟩ ?_
    cases hF
    exact ⟨rfl, rfl, hL⟩
  · replace hF := br_F hc hF
    refine x_aload_n (i := 0) (b := 13) dX12_half_12 rfl rfl rfl ?_
    refine x_iload_n (i := 2) (b := 14) dX12_half_13 rfl rfl rfl ?_
    refine x_aload_n (i := 0) (b := 15) dX12_half_14 rfl rfl rfl ?_
    refine x_iload_n (i := 1) (b := 16) dX12_half_15 rfl rfl rfl ?_
    refine x_iload_n (i := 2) (b := 17) dX12_half_16 rfl rfl rfl ?_
    obtain ⟨hs, hF⟩ := ck_e hF
    refine x_iadd (b := 18) dX12_half_17 hs rfl ?_
    obtain ⟨hs, hF⟩ := ck_e hF
    refine x_iald (v := gI h 73 0 (x1 + x2)) (b := 19) ak_73 dX12_half_18 hs rfl rfl ?_
    obtain ⟨hs, hF⟩ := ck_e hF
    have hs1 := hs
    refine x_iast (b := 20) ak_73 dX12_half_19 hs1 rfl ?_
    obtain ⟨h1, e_h1, hF⟩ := lt_e hF
    refine x_hp (h2 := h1) e_h1 ?_
    replace hL : Lay h1 := by rw [← e_h1]; exact hL
    obtain ⟨hs, hF⟩ := ck_e hF
    refine x_iinc (i := 2) (b := 23) (ls2 := [some (xr 73 0), some (xi x1), some (xi (x2 + 1))]) dX12_half_20 rfl (Nat.le_of_ble_eq_true rfl) hs rfl rfl ?_
    refine x_goto (tgt := 7) dX12_half_23 (by decide) ?_
    exact x_dp (ls2 := [some (xr 73 0), some (xi x1), some (xi (x2 + 1))]) ⟨rfl, rfl, rfl, trivial⟩ (hr_7 x1 (x2 + 1) h1 hL hF)
set_option maxHeartbeats 4000000 in
set_option maxRecDepth 100000 in
theorem u_X12_half_r73 (E : xE) (d : Nat) (r : Int × Hp) : ∀ n : Nat, (∀ (h : Hp), Lay h → g_X12_half_r73 n 0 [] h = some r → X E mX12_half (d + 1) (0, 0) (0, 0) 0 [some (xr 73 0), none, none] [] h (PoV r)) ∧ (∀ (x1 x2 : Int) (h : Hp), Lay h → g_X12_half_r73 n 1 [x1, x2] h = some r → X E mX12_half (d + 1) (0, 0) (0, 0) 7 [some (xr 73 0), some (xi x1), some (xi x2)] [] h (PoV r)) := by
  intro n
  induction n with
  | zero => exact ⟨fun _ _ hF => no_e (r := r) hF, fun _ _ _ _ hF => no_e (r := r) hF⟩
  | succ n ih => exact ⟨fun h hL hF => t_X12_half_r73_0 E d (g_X12_half_r73 n) r ih.2  h hL hF, fun x1 x2 h hL hF => t_X12_half_r73_1 E d (g_X12_half_r73 n) r ih.2 x1 x2 h hL hF⟩
theorem c_X12_half_r73 (d : Nat) (h : Hp) (r : Int × Hp) (hL : Lay h) (hF : f_X12_half_r73  h = some r) : Sp mX12_half (d + 1) (0, 0) [xr 73 0] h (PoV r) :=
  sp_of (by decide) rfl (Nat.le_of_ble_eq_true rfl) (ls := [some (xr 73 0), none, none]) rfl (fun E _ => (u_X12_half_r73 E d r FU).1  h hL hF)
noncomputable def b_X12_half_r74_0 (rec : Rk) (h : Hp) : Option (Int × Hp) :=
  ck ((0 : Int) ≤ 18 ∧ (0 : Int) < 2) <|
  lt (18 / 2) fun z1 =>
  rec 1 [z1, 0] h
noncomputable def b_X12_half_r74_1 (rec : Rk) (x1 x2 : Int) (h : Hp) : Option (Int × Hp) :=
  if x1 ≤ x2 then (
    some (0, h)
  ) else (
    ck (-2147483648 ≤ x1 + x2 ∧ x1 + x2 < 2147483648) <|
    ck (0 ≤ (x1 + x2) ∧ (x1 + x2) < 18) <|
    ck (0 ≤ x2 ∧ x2 < 18) <|
    lt (sI h 74 0 x2 (gI h 74 0 (x1 + x2))) fun h1 =>
    ck (-2147483648 ≤ x2 + 1 ∧ x2 + 1 < 2147483648) <|
    rec 1 [x1, x2 + 1] h1
  )
noncomputable def g_X12_half_r74 (n : Nat) : Rk := Nat.rec (motive := fun _ => Rk) (fun _ _ _ => none) (fun _ rec k l h => if k = 0 then b_X12_half_r74_0 rec  h else if k = 1 then b_X12_half_r74_1 rec (l.getD 0 0) (l.getD 1 0) h else none) n
noncomputable def f_X12_half_r74 (h : Hp) : Option (Int × Hp) := g_X12_half_r74 FU 0 [] h
set_option maxHeartbeats 4000000 in
set_option maxRecDepth 100000 in
theorem t_X12_half_r74_0 (E : xE) (d : Nat) (rec : Rk) (r : Int × Hp) (hr_7 : ∀ (x1 x2 : Int) (h : Hp), Lay h → rec 1 [x1, x2] h = some r → X E mX12_half (d + 1) (0, 0) (0, 0) 7 [some (xr 74 0), some (xi x1), some (xi x2)] [] h (PoV r)) (h : Hp) (hL : Lay h) (hF : b_X12_half_r74_0 rec  h = some r) : X E mX12_half (d + 1) (0, 0) (0, 0) 0 [some (xr 74 0), none, none] [] h (PoV r) := by
  unfold b_X12_half_r74_0 at hF
  refine x_aload_n (i := 0) (b := 1) dX12_half_0 rfl rfl rfl ?_
  refine x_alen (kind := 0) (ct := 0) (b := 2) ak_74 (by decide) dX12_half_1 rfl ?_
  refine x_eq (y := 18) rfl ?_
  refine x_iconst (n := 2) (b := 3) dX12_half_2 (by decide) rfl ?_
  obtain ⟨hs, hF⟩ := ck_e hF
  refine x_idiv (b := 4) dX12_half_3 hs.1 hs.2 rfl ?_
  obtain ⟨z1, e_z1, hF⟩ := lt_e hF
  refine x_eq (y := z1) e_z1 ?_
  refine x_istore_n (i := 1) (b := 5) (ls2 := [some (xr 74 0), some (xi z1), none]) dX12_half_4 rfl (Nat.le_of_ble_eq_true rfl) rfl rfl ?_
  refine x_iconst (n := 0) (b := 6) dX12_half_5 (by decide) rfl ?_
  refine x_istore_n (i := 2) (b := 7) (ls2 := [some (xr 74 0), some (xi z1), some (xi 0)]) dX12_half_6 rfl (Nat.le_of_ble_eq_true rfl) rfl rfl ?_
  exact x_dp (ls2 := [some (xr 74 0), some (xi z1), some (xi 0)]) ⟨rfl, rfl, rfl, trivial⟩ (hr_7 z1 0 h hL hF)
set_option maxHeartbeats 4000000 in
set_option maxRecDepth 100000 in
theorem t_X12_half_r74_1 (E : xE) (d : Nat) (rec : Rk) (r : Int × Hp) (hr_7 : ∀ (x1 x2 : Int) (h : Hp), Lay h → rec 1 [x1, x2] h = some r → X E mX12_half (d + 1) (0, 0) (0, 0) 7 [some (xr 74 0), some (xi x1), some (xi x2)] [] h (PoV r)) (x1 x2 : Int) (h : Hp) (hL : Lay h) (hF : b_X12_half_r74_1 rec x1 x2 h = some r) : X E mX12_half (d + 1) (0, 0) (0, 0) 7 [some (xr 74 0), some (xi x1), some (xi x2)] [] h (PoV r) := by
  unfold b_X12_half_r74_1 at hF
  refine x_iload_n (i := 2) (b := 8) dX12_half_7 rfl rfl rfl ?_
  refine x_iload_n (i := 1) (b := 9) dX12_half_8 rfl rfl rfl ?_
  refine x_icmp_ge (tgt := 26) (b := 12) dX12_half_9 (by decide) rfl (fun hc => ?_) (fun hc => ?_)
  · replace hF := br_T hc hF
    refine x_return dX12_half_26 rfl ⟨Nat.le_refl _, Nat.le_refl _⟩ ?_
    cases hF
    exact ⟨rfl, rfl, hL⟩
  · replace hF := br_F hc hF
    refine x_aload_n (i := 0) (b := 13) dX12_half_12 rfl rfl rfl ?_
    refine x_iload_n (i := 2) (b := 14) dX12_half_13 rfl rfl rfl ?_
    refine x_aload_n (i := 0) (b := 15) dX12_half_14 rfl rfl rfl ?_
    refine x_iload_n (i := 1) (b := 16) dX12_half_15 rfl rfl rfl ?_
    refine x_iload_n (i := 2) (b := 17) dX12_half_16 rfl rfl rfl ?_
    obtain ⟨hs, hF⟩ := ck_e hF
    refine x_iadd (b := 18) dX12_half_17 hs rfl ?_
    obtain ⟨hs, hF⟩ := ck_e hF
    refine x_iald (v := gI h 74 0 (x1 + x2)) (b := 19) ak_74 dX12_half_18 hs rfl rfl ?_
    obtain ⟨hs, hF⟩ := ck_e hF
    have hs1 := hs
    refine x_iast (b := 20) ak_74 dX12_half_19 hs1 rfl ?_
    obtain ⟨h1, e_h1, hF⟩ := lt_e hF
    refine x_hp (h2 := h1) e_h1 ?_
    replace hL : Lay h1 := by rw [← e_h1]; exact hL
    obtain ⟨hs, hF⟩ := ck_e hF
    refine x_iinc (i := 2) (b := 23) (ls2 := [some (xr 74 0), some (xi x1), some (xi (x2 + 1))]) dX12_half_20 rfl (Nat.le_of_ble_eq_true rfl) hs rfl rfl ?_
    refine x_goto (tgt := 7) dX12_half_23 (by decide) ?_
    exact x_dp (ls2 := [some (xr 74 0), some (xi x1), some (xi (x2 + 1))]) ⟨rfl, rfl, rfl, trivial⟩ (hr_7 x1 (x2 + 1) h1 hL hF)
set_option maxHeartbeats 4000000 in
set_option maxRecDepth 100000 in
theorem u_X12_half_r74 (E : xE) (d : Nat) (r : Int × Hp) : ∀ n : Nat, (∀ (h : Hp), Lay h → g_X12_half_r74 n 0 [] h = some r → X E mX12_half (d + 1) (0, 0) (0, 0) 0 [some (xr 74 0), none, none] [] h (PoV r)) ∧ (∀ (x1 x2 : Int) (h : Hp), Lay h → g_X12_half_r74 n 1 [x1, x2] h = some r → X E mX12_half (d + 1) (0, 0) (0, 0) 7 [some (xr 74 0), some (xi x1), some (xi x2)] [] h (PoV r)) := by
  intro n
  induction n with
  | zero => exact ⟨fun _ _ hF => no_e (r := r) hF, fun _ _ _ _ hF => no_e (r := r) hF⟩
  | succ n ih => exact ⟨fun h hL hF => t_X12_half_r74_0 E d (g_X12_half_r74 n) r ih.2  h hL hF, fun x1 x2 h hL hF => t_X12_half_r74_1 E d (g_X12_half_r74 n) r ih.2 x1 x2 h hL hF⟩
theorem c_X12_half_r74 (d : Nat) (h : Hp) (r : Int × Hp) (hL : Lay h) (hF : f_X12_half_r74  h = some r) : Sp mX12_half (d + 1) (0, 0) [xr 74 0] h (PoV r) :=
  sp_of (by decide) rfl (Nat.le_of_ble_eq_true rfl) (ls := [some (xr 74 0), none, none]) rfl (fun E _ => (u_X12_half_r74 E d r FU).1  h hL hF)
noncomputable def b_X12_half_r75_0 (rec : Rk) (h : Hp) : Option (Int × Hp) :=
  ck ((0 : Int) ≤ 18 ∧ (0 : Int) < 2) <|
  lt (18 / 2) fun z1 =>
  rec 1 [z1, 0] h
noncomputable def b_X12_half_r75_1 (rec : Rk) (x1 x2 : Int) (h : Hp) : Option (Int × Hp) :=
  if x1 ≤ x2 then (
    some (0, h)
  ) else (
    ck (-2147483648 ≤ x1 + x2 ∧ x1 + x2 < 2147483648) <|
    ck (0 ≤ (x1 + x2) ∧ (x1 + x2) < 18) <|
    ck (0 ≤ x2 ∧ x2 < 18) <|
    lt (sI h 75 0 x2 (gI h 75 0 (x1 + x2))) fun h1 =>
    ck (-2147483648 ≤ x2 + 1 ∧ x2 + 1 < 2147483648) <|
    rec 1 [x1, x2 + 1] h1
  )
noncomputable def g_X12_half_r75 (n : Nat) : Rk := Nat.rec (motive := fun _ => Rk) (fun _ _ _ => none) (fun _ rec k l h => if k = 0 then b_X12_half_r75_0 rec  h else if k = 1 then b_X12_half_r75_1 rec (l.getD 0 0) (l.getD 1 0) h else none) n
noncomputable def f_X12_half_r75 (h : Hp) : Option (Int × Hp) := g_X12_half_r75 FU 0 [] h
set_option maxHeartbeats 4000000 in
set_option maxRecDepth 100000 in
theorem t_X12_half_r75_0 (E : xE) (d : Nat) (rec : Rk) (r : Int × Hp) (hr_7 : ∀ (x1 x2 : Int) (h : Hp), Lay h → rec 1 [x1, x2] h = some r → X E mX12_half (d + 1) (0, 0) (0, 0) 7 [some (xr 75 0), some (xi x1), some (xi x2)] [] h (PoV r)) (h : Hp) (hL : Lay h) (hF : b_X12_half_r75_0 rec  h = some r) : X E mX12_half (d + 1) (0, 0) (0, 0) 0 [some (xr 75 0), none, none] [] h (PoV r) := by
  unfold b_X12_half_r75_0 at hF
  refine x_aload_n (i := 0) (b := 1) dX12_half_0 rfl rfl rfl ?_
  refine x_alen (kind := 0) (ct := 0) (b := 2) ak_75 (by decide) dX12_half_1 rfl ?_
  refine x_eq (y := 18) rfl ?_
  refine x_iconst (n := 2) (b := 3) dX12_half_2 (by decide) rfl ?_
  obtain ⟨hs, hF⟩ := ck_e hF
  refine x_idiv (b := 4) dX12_half_3 hs.1 hs.2 rfl ?_
  obtain ⟨z1, e_z1, hF⟩ := lt_e hF
  refine x_eq (y := z1) e_z1 ?_
  refine x_istore_n (i := 1) (b := 5) (ls2 := [some (xr 75 0), some (xi z1), none]) dX12_half_4 rfl (Nat.le_of_ble_eq_true rfl) rfl rfl ?_
  refine x_iconst (n := 0) (b := 6) dX12_half_5 (by decide) rfl ?_
  refine x_istore_n (i := 2) (b := 7) (ls2 := [some (xr 75 0), some (xi z1), some (xi 0)]) dX12_half_6 rfl (Nat.le_of_ble_eq_true rfl) rfl rfl ?_
  exact x_dp (ls2 := [some (xr 75 0), some (xi z1), some (xi 0)]) ⟨rfl, rfl, rfl, trivial⟩ (hr_7 z1 0 h hL hF)
set_option maxHeartbeats 4000000 in
set_option maxRecDepth 100000 in
theorem t_X12_half_r75_1 (E : xE) (d : Nat) (rec : Rk) (r : Int × Hp) (hr_7 : ∀ (x1 x2 : Int) (h : Hp), Lay h → rec 1 [x1, x2] h = some r → X E mX12_half (d + 1) (0, 0) (0, 0) 7 [some (xr 75 0), some (xi x1), some (xi x2)] [] h (PoV r)) (x1 x2 : Int) (h : Hp) (hL : Lay h) (hF : b_X12_half_r75_1 rec x1 x2 h = some r) : X E mX12_half (d + 1) (0, 0) (0, 0) 7 [some (xr 75 0), some (xi x1), some (xi x2)] [] h (PoV r) := by
  unfold b_X12_half_r75_1 at hF
  refine x_iload_n (i := 2) (b := 8) dX12_half_7 rfl rfl rfl ?_
  refine x_iload_n (i := 1) (b := 9) dX12_half_8 rfl rfl rfl ?_
  refine x_icmp_ge (tgt := 26) (b := 12) dX12_half_9 (by decide) rfl (fun hc => ?_) (fun hc => ?_)
  · replace hF := br_T hc hF
    refine x_return dX12_half_26 rfl ⟨Nat.le_refl _, Nat.le_refl _⟩ ?_
    cases hF
    exact ⟨rfl, rfl, hL⟩
  · replace hF := br_F hc hF
    refine x_aload_n (i := 0) (b := 13) dX12_half_12 rfl rfl rfl ?_
    refine x_iload_n (i := 2) (b := 14) dX12_half_13 rfl rfl rfl ?_
    refine x_aload_n (i := 0) (b := 15) dX12_half_14 rfl rfl rfl ?_
    refine x_iload_n (i := 1) (b := 16) dX12_half_15 rfl rfl rfl ?_
    refine x_iload_n (i := 2) (b := 17) dX12_half_16 rfl rfl rfl ?_
    obtain ⟨hs, hF⟩ := ck_e hF
    refine x_iadd (b := 18) dX12_half_17 hs rfl ?_
    obtain ⟨hs, hF⟩ := ck_e hF
    refine x_iald (v := gI h 75 0 (x1 + x2)) (b := 19) ak_75 dX12_half_18 hs rfl rfl ?_
    obtain ⟨hs, hF⟩ := ck_e hF
    have hs1 := hs
    refine x_iast (b := 20) ak_75 dX12_half_19 hs1 rfl ?_
    obtain ⟨h1, e_h1, hF⟩ := lt_e hF
    refine x_hp (h2 := h1) e_h1 ?_
    replace hL : Lay h1 := by rw [← e_h1]; exact hL
    obtain ⟨hs, hF⟩ := ck_e hF
    refine x_iinc (i := 2) (b := 23) (ls2 := [some (xr 75 0), some (xi x1), some (xi (x2 + 1))]) dX12_half_20 rfl (Nat.le_of_ble_eq_true rfl) hs rfl rfl ?_
    refine x_goto (tgt := 7) dX12_half_23 (by decide) ?_
    exact x_dp (ls2 := [some (xr 75 0), some (xi x1), some (xi (x2 + 1))]) ⟨rfl, rfl, rfl, trivial⟩ (hr_7 x1 (x2 + 1) h1 hL hF)
set_option maxHeartbeats 4000000 in
set_option maxRecDepth 100000 in
theorem u_X12_half_r75 (E : xE) (d : Nat) (r : Int × Hp) : ∀ n : Nat, (∀ (h : Hp), Lay h → g_X12_half_r75 n 0 [] h = some r → X E mX12_half (d + 1) (0, 0) (0, 0) 0 [some (xr 75 0), none, none] [] h (PoV r)) ∧ (∀ (x1 x2 : Int) (h : Hp), Lay h → g_X12_half_r75 n 1 [x1, x2] h = some r → X E mX12_half (d + 1) (0, 0) (0, 0) 7 [some (xr 75 0), some (xi x1), some (xi x2)] [] h (PoV r)) := by
  intro n
  induction n with
  | zero => exact ⟨fun _ _ hF => no_e (r := r) hF, fun _ _ _ _ hF => no_e (r := r) hF⟩
  | succ n ih => exact ⟨fun h hL hF => t_X12_half_r75_0 E d (g_X12_half_r75 n) r ih.2  h hL hF, fun x1 x2 h hL hF => t_X12_half_r75_1 E d (g_X12_half_r75 n) r ih.2 x1 x2 h hL hF⟩
theorem c_X12_half_r75 (d : Nat) (h : Hp) (r : Int × Hp) (hL : Lay h) (hF : f_X12_half_r75  h = some r) : Sp mX12_half (d + 1) (0, 0) [xr 75 0] h (PoV r) :=
  sp_of (by decide) rfl (Nat.le_of_ble_eq_true rfl) (ls := [some (xr 75 0), none, none]) rfl (fun E _ => (u_X12_half_r75 E d r FU).1  h hL hF)
noncomputable def b_X12_half_r76_0 (rec : Rk) (h : Hp) : Option (Int × Hp) :=
  ck ((0 : Int) ≤ 18 ∧ (0 : Int) < 2) <|
  lt (18 / 2) fun z1 =>
  rec 1 [z1, 0] h
noncomputable def b_X12_half_r76_1 (rec : Rk) (x1 x2 : Int) (h : Hp) : Option (Int × Hp) :=
  if x1 ≤ x2 then (
    some (0, h)
  ) else (
    ck (-2147483648 ≤ x1 + x2 ∧ x1 + x2 < 2147483648) <|
    ck (0 ≤ (x1 + x2) ∧ (x1 + x2) < 18) <|
    ck (0 ≤ x2 ∧ x2 < 18) <|
    lt (sI h 76 0 x2 (gI h 76 0 (x1 + x2))) fun h1 =>
    ck (-2147483648 ≤ x2 + 1 ∧ x2 + 1 < 2147483648) <|
    rec 1 [x1, x2 + 1] h1
  )
noncomputable def g_X12_half_r76 (n : Nat) : Rk := Nat.rec (motive := fun _ => Rk) (fun _ _ _ => none) (fun _ rec k l h => if k = 0 then b_X12_half_r76_0 rec  h else if k = 1 then b_X12_half_r76_1 rec (l.getD 0 0) (l.getD 1 0) h else none) n
noncomputable def f_X12_half_r76 (h : Hp) : Option (Int × Hp) := g_X12_half_r76 FU 0 [] h
set_option maxHeartbeats 4000000 in
set_option maxRecDepth 100000 in
theorem t_X12_half_r76_0 (E : xE) (d : Nat) (rec : Rk) (r : Int × Hp) (hr_7 : ∀ (x1 x2 : Int) (h : Hp), Lay h → rec 1 [x1, x2] h = some r → X E mX12_half (d + 1) (0, 0) (0, 0) 7 [some (xr 76 0), some (xi x1), some (xi x2)] [] h (PoV r)) (h : Hp) (hL : Lay h) (hF : b_X12_half_r76_0 rec  h = some r) : X E mX12_half (d + 1) (0, 0) (0, 0) 0 [some (xr 76 0), none, none] [] h (PoV r) := by
  unfold b_X12_half_r76_0 at hF
  refine x_aload_n (i := 0) (b := 1) dX12_half_0 rfl rfl rfl ?_
  refine x_alen (kind := 0) (ct := 0) (b := 2) ak_76 (by decide) dX12_half_1 rfl ?_
  refine x_eq (y := 18) rfl ?_
  refine x_iconst (n := 2) (b := 3) dX12_half_2 (by decide) rfl ?_
  obtain ⟨hs, hF⟩ := ck_e hF
  refine x_idiv (b := 4) dX12_half_3 hs.1 hs.2 rfl ?_
  obtain ⟨z1, e_z1, hF⟩ := lt_e hF
  refine x_eq (y := z1) e_z1 ?_
  refine x_istore_n (i := 1) (b := 5) (ls2 := [some (xr 76 0), some (xi z1), none]) dX12_half_4 rfl (Nat.le_of_ble_eq_true rfl) rfl rfl ?_
  refine x_iconst (n := 0) (b := 6) dX12_half_5 (by decide) rfl ?_
  refine x_istore_n (i := 2) (b := 7) (ls2 := [some (xr 76 0), some (xi z1), some (xi 0)]) dX12_half_6 rfl (Nat.le_of_ble_eq_true rfl) rfl rfl ?_
  exact x_dp (ls2 := [some (xr 76 0), some (xi z1), some (xi 0)]) ⟨rfl, rfl, rfl, trivial⟩ (hr_7 z1 0 h hL hF)
set_option maxHeartbeats 4000000 in
set_option maxRecDepth 100000 in
theorem t_X12_half_r76_1 (E : xE) (d : Nat) (rec : Rk) (r : Int × Hp) (hr_7 : ∀ (x1 x2 : Int) (h : Hp), Lay h → rec 1 [x1, x2] h = some r → X E mX12_half (d + 1) (0, 0) (0, 0) 7 [some (xr 76 0), some (xi x1), some (xi x2)] [] h (PoV r)) (x1 x2 : Int) (h : Hp) (hL : Lay h) (hF : b_X12_half_r76_1 rec x1 x2 h = some r) : X E mX12_half (d + 1) (0, 0) (0, 0) 7 [some (xr 76 0), some (xi x1), some (xi x2)] [] h (PoV r) := by
  unfold b_X12_half_r76_1 at hF
  refine x_iload_n (i := 2) (b := 8) dX12_half_7 rfl rfl rfl ?_
  refine x_iload_n (i := 1) (b := 9) dX12_half_8 rfl rfl rfl ?_
  refine x_icmp_ge (tgt := 26) (b := 12) dX12_half_9 (by decide) rfl (fun hc => ?_) (fun hc => ?_)
  · replace hF := br_T hc hF
    refine x_return dX12_half_26 rfl ⟨Nat.le_refl _, Nat.le_refl _⟩ ?_
    cases hF
    exact ⟨rfl, rfl, hL⟩
  · replace hF := br_F hc hF
    refine x_aload_n (i := 0) (b := 13) dX12_half_12 rfl rfl rfl ?_
    refine x_iload_n (i := 2) (b := 14) dX12_half_13 rfl rfl rfl ?_
    refine x_aload_n (i := 0) (b := 15) dX12_half_14 rfl rfl rfl ?_
    refine x_iload_n (i := 1) (b := 16) dX12_half_15 rfl rfl rfl ?_
    refine x_iload_n (i := 2) (b := 17) dX12_half_16 rfl rfl rfl ?_
    obtain ⟨hs, hF⟩ := ck_e hF
    refine x_iadd (b := 18) dX12_half_17 hs rfl ?_
    obtain ⟨hs, hF⟩ := ck_e hF
    refine x_iald (v := gI h 76 0 (x1 + x2)) (b := 19) ak_76 dX12_half_18 hs rfl rfl ?_
    obtain ⟨hs, hF⟩ := ck_e hF
    have hs1 := hs
    refine x_iast (b := 20) ak_76 dX12_half_19 hs1 rfl ?_
    obtain ⟨h1, e_h1, hF⟩ := lt_e hF
    refine x_hp (h2 := h1) e_h1 ?_
    replace hL : Lay h1 := by rw [← e_h1]; exact hL
    obtain ⟨hs, hF⟩ := ck_e hF
    refine x_iinc (i := 2) (b := 23) (ls2 := [some (xr 76 0), some (xi x1), some (xi (x2 + 1))]) dX12_half_20 rfl (Nat.le_of_ble_eq_true rfl) hs rfl rfl ?_
    refine x_goto (tgt := 7) dX12_half_23 (by decide) ?_
    exact x_dp (ls2 := [some (xr 76 0), some (xi x1), some (xi (x2 + 1))]) ⟨rfl, rfl, rfl, trivial⟩ (hr_7 x1 (x2 + 1) h1 hL hF)
set_option maxHeartbeats 4000000 in
set_option maxRecDepth 100000 in
theorem u_X12_half_r76 (E : xE) (d : Nat) (r : Int × Hp) : ∀ n : Nat, (∀ (h : Hp), Lay h → g_X12_half_r76 n 0 [] h = some r → X E mX12_half (d + 1) (0, 0) (0, 0) 0 [some (xr 76 0), none, none] [] h (PoV r)) ∧ (∀ (x1 x2 : Int) (h : Hp), Lay h → g_X12_half_r76 n 1 [x1, x2] h = some r → X E mX12_half (d + 1) (0, 0) (0, 0) 7 [some (xr 76 0), some (xi x1), some (xi x2)] [] h (PoV r)) := by
  intro n
  induction n with
  | zero => exact ⟨fun _ _ hF => no_e (r := r) hF, fun _ _ _ _ hF => no_e (r := r) hF⟩
  | succ n ih => exact ⟨fun h hL hF => t_X12_half_r76_0 E d (g_X12_half_r76 n) r ih.2  h hL hF, fun x1 x2 h hL hF => t_X12_half_r76_1 E d (g_X12_half_r76 n) r ih.2 x1 x2 h hL hF⟩
theorem c_X12_half_r76 (d : Nat) (h : Hp) (r : Int × Hp) (hL : Lay h) (hF : f_X12_half_r76  h = some r) : Sp mX12_half (d + 1) (0, 0) [xr 76 0] h (PoV r) :=
  sp_of (by decide) rfl (Nat.le_of_ble_eq_true rfl) (ls := [some (xr 76 0), none, none]) rfl (fun E _ => (u_X12_half_r76 E d r FU).1  h hL hF)
noncomputable def b_X12_half_r77_0 (rec : Rk) (h : Hp) : Option (Int × Hp) :=
  ck ((0 : Int) ≤ 18 ∧ (0 : Int) < 2) <|
  lt (18 / 2) fun z1 =>
  rec 1 [z1, 0] h
noncomputable def b_X12_half_r77_1 (rec : Rk) (x1 x2 : Int) (h : Hp) : Option (Int × Hp) :=
  if x1 ≤ x2 then (
    some (0, h)
  ) else (
    ck (-2147483648 ≤ x1 + x2 ∧ x1 + x2 < 2147483648) <|
    ck (0 ≤ (x1 + x2) ∧ (x1 + x2) < 18) <|
    ck (0 ≤ x2 ∧ x2 < 18) <|
    lt (sI h 77 0 x2 (gI h 77 0 (x1 + x2))) fun h1 =>
    ck (-2147483648 ≤ x2 + 1 ∧ x2 + 1 < 2147483648) <|
    rec 1 [x1, x2 + 1] h1
  )
noncomputable def g_X12_half_r77 (n : Nat) : Rk := Nat.rec (motive := fun _ => Rk) (fun _ _ _ => none) (fun _ rec k l h => if k = 0 then b_X12_half_r77_0 rec  h else if k = 1 then b_X12_half_r77_1 rec (l.getD 0 0) (l.getD 1 0) h else none) n
noncomputable def f_X12_half_r77 (h : Hp) : Option (Int × Hp) := g_X12_half_r77 FU 0 [] h
set_option maxHeartbeats 4000000 in
set_option maxRecDepth 100000 in
theorem t_X12_half_r77_0 (E : xE) (d : Nat) (rec : Rk) (r : Int × Hp) (hr_7 : ∀ (x1 x2 : Int) (h : Hp), Lay h → rec 1 [x1, x2] h = some r → X E mX12_half (d + 1) (0, 0) (0, 0) 7 [some (xr 77 0), some (xi x1), some (xi x2)] [] h (PoV r)) (h : Hp) (hL : Lay h) (hF : b_X12_half_r77_0 rec  h = some r) : X E mX12_half (d + 1) (0, 0) (0, 0) 0 [some (xr 77 0), none, none] [] h (PoV r) := by
  unfold b_X12_half_r77_0 at hF
  refine x_aload_n (i := 0) (b := 1) dX12_half_0 rfl rfl rfl ?_
  refine x_alen (kind := 0) (ct := 0) (b := 2) ak_77 (by decide) dX12_half_1 rfl ?_
  refine x_eq (y := 18) rfl ?_
  refine x_iconst (n := 2) (b := 3) dX12_half_2 (by decide) rfl ?_
  obtain ⟨hs, hF⟩ := ck_e hF
  refine x_idiv (b := 4) dX12_half_3 hs.1 hs.2 rfl ?_
  obtain ⟨z1, e_z1, hF⟩ := lt_e hF
  refine x_eq (y := z1) e_z1 ?_
  refine x_istore_n (i := 1) (b := 5) (ls2 := [some (xr 77 0), some (xi z1), none]) dX12_half_4 rfl (Nat.le_of_ble_eq_true rfl) rfl rfl ?_
  refine x_iconst (n := 0) (b := 6) dX12_half_5 (by decide) rfl ?_
  refine x_istore_n (i := 2) (b := 7) (ls2 := [some (xr 77 0), some (xi z1), some (xi 0)]) dX12_half_6 rfl (Nat.le_of_ble_eq_true rfl) rfl rfl ?_
  exact x_dp (ls2 := [some (xr 77 0), some (xi z1), some (xi 0)]) ⟨rfl, rfl, rfl, trivial⟩ (hr_7 z1 0 h hL hF)
set_option maxHeartbeats 4000000 in
set_option maxRecDepth 100000 in
theorem t_X12_half_r77_1 (E : xE) (d : Nat) (rec : Rk) (r : Int × Hp) (hr_7 : ∀ (x1 x2 : Int) (h : Hp), Lay h → rec 1 [x1, x2] h = some r → X E mX12_half (d + 1) (0, 0) (0, 0) 7 [some (xr 77 0), some (xi x1), some (xi x2)] [] h (PoV r)) (x1 x2 : Int) (h : Hp) (hL : Lay h) (hF : b_X12_half_r77_1 rec x1 x2 h = some r) : X E mX12_half (d + 1) (0, 0) (0, 0) 7 [some (xr 77 0), some (xi x1), some (xi x2)] [] h (PoV r) := by
  unfold b_X12_half_r77_1 at hF
  refine x_iload_n (i := 2) (b := 8) dX12_half_7 rfl rfl rfl ?_
  refine x_iload_n (i := 1) (b := 9) dX12_half_8 rfl rfl rfl ?_
  refine x_icmp_ge (tgt := 26) (b := 12) dX12_half_9 (by decide) rfl (fun hc => ?_) (fun hc => ?_)
  · replace hF := br_T hc hF
    refine x_return dX12_half_26 rfl ⟨Nat.le_refl _, Nat.le_refl _⟩ ?_
    cases hF
    exact ⟨rfl, rfl, hL⟩
  · replace hF := br_F hc hF
    refine x_aload_n (i := 0) (b := 13) dX12_half_12 rfl rfl rfl ?_
    refine x_iload_n (i := 2) (b := 14) dX12_half_13 rfl rfl rfl ?_
    refine x_aload_n (i := 0) (b := 15) dX12_half_14 rfl rfl rfl ?_
    refine x_iload_n (i := 1) (b := 16) dX12_half_15 rfl rfl rfl ?_
    refine x_iload_n (i := 2) (b := 17) dX12_half_16 rfl rfl rfl ?_
    obtain ⟨hs, hF⟩ := ck_e hF
    refine x_iadd (b := 18) dX12_half_17 hs rfl ?_
    obtain ⟨hs, hF⟩ := ck_e hF
    refine x_iald (v := gI h 77 0 (x1 + x2)) (b := 19) ak_77 dX12_half_18 hs rfl rfl ?_
    obtain ⟨hs, hF⟩ := ck_e hF
    have hs1 := hs
    refine x_iast (b := 20) ak_77 dX12_half_19 hs1 rfl ?_
    obtain ⟨h1, e_h1, hF⟩ := lt_e hF
    refine x_hp (h2 := h1) e_h1 ?_
    replace hL : Lay h1 := by rw [← e_h1]; exact hL
    obtain ⟨hs, hF⟩ := ck_e hF
    refine x_iinc (i := 2) (b := 23) (ls2 := [some (xr 77 0), some (xi x1), some (xi (x2 + 1))]) dX12_half_20 rfl (Nat.le_of_ble_eq_true rfl) hs rfl rfl ?_
    refine x_goto (tgt := 7) dX12_half_23 (by decide) ?_
    exact x_dp (ls2 := [some (xr 77 0), some (xi x1), some (xi (x2 + 1))]) ⟨rfl, rfl, rfl, trivial⟩ (hr_7 x1 (x2 + 1) h1 hL hF)
set_option maxHeartbeats 4000000 in
set_option maxRecDepth 100000 in
theorem u_X12_half_r77 (E : xE) (d : Nat) (r : Int × Hp) : ∀ n : Nat, (∀ (h : Hp), Lay h → g_X12_half_r77 n 0 [] h = some r → X E mX12_half (d + 1) (0, 0) (0, 0) 0 [some (xr 77 0), none, none] [] h (PoV r)) ∧ (∀ (x1 x2 : Int) (h : Hp), Lay h → g_X12_half_r77 n 1 [x1, x2] h = some r → X E mX12_half (d + 1) (0, 0) (0, 0) 7 [some (xr 77 0), some (xi x1), some (xi x2)] [] h (PoV r)) := by
  intro n
  induction n with
  | zero => exact ⟨fun _ _ hF => no_e (r := r) hF, fun _ _ _ _ hF => no_e (r := r) hF⟩
  | succ n ih => exact ⟨fun h hL hF => t_X12_half_r77_0 E d (g_X12_half_r77 n) r ih.2  h hL hF, fun x1 x2 h hL hF => t_X12_half_r77_1 E d (g_X12_half_r77 n) r ih.2 x1 x2 h hL hF⟩
theorem c_X12_half_r77 (d : Nat) (h : Hp) (r : Int × Hp) (hL : Lay h) (hF : f_X12_half_r77  h = some r) : Sp mX12_half (d + 1) (0, 0) [xr 77 0] h (PoV r) :=
  sp_of (by decide) rfl (Nat.le_of_ble_eq_true rfl) (ls := [some (xr 77 0), none, none]) rfl (fun E _ => (u_X12_half_r77 E d r FU).1  h hL hF)
noncomputable def b_X12_half_r78_0 (rec : Rk) (h : Hp) : Option (Int × Hp) :=
  ck ((0 : Int) ≤ 18 ∧ (0 : Int) < 2) <|
  lt (18 / 2) fun z1 =>
  rec 1 [z1, 0] h
noncomputable def b_X12_half_r78_1 (rec : Rk) (x1 x2 : Int) (h : Hp) : Option (Int × Hp) :=
  if x1 ≤ x2 then (
    some (0, h)
  ) else (
    ck (-2147483648 ≤ x1 + x2 ∧ x1 + x2 < 2147483648) <|
    ck (0 ≤ (x1 + x2) ∧ (x1 + x2) < 18) <|
    ck (0 ≤ x2 ∧ x2 < 18) <|
    lt (sI h 78 0 x2 (gI h 78 0 (x1 + x2))) fun h1 =>
    ck (-2147483648 ≤ x2 + 1 ∧ x2 + 1 < 2147483648) <|
    rec 1 [x1, x2 + 1] h1
  )
noncomputable def g_X12_half_r78 (n : Nat) : Rk := Nat.rec (motive := fun _ => Rk) (fun _ _ _ => none) (fun _ rec k l h => if k = 0 then b_X12_half_r78_0 rec  h else if k = 1 then b_X12_half_r78_1 rec (l.getD 0 0) (l.getD 1 0) h else none) n
noncomputable def f_X12_half_r78 (h : Hp) : Option (Int × Hp) := g_X12_half_r78 FU 0 [] h
set_option maxHeartbeats 4000000 in
set_option maxRecDepth 100000 in
theorem t_X12_half_r78_0 (E : xE) (d : Nat) (rec : Rk) (r : Int × Hp) (hr_7 : ∀ (x1 x2 : Int) (h : Hp), Lay h → rec 1 [x1, x2] h = some r → X E mX12_half (d + 1) (0, 0) (0, 0) 7 [some (xr 78 0), some (xi x1), some (xi x2)] [] h (PoV r)) (h : Hp) (hL : Lay h) (hF : b_X12_half_r78_0 rec  h = some r) : X E mX12_half (d + 1) (0, 0) (0, 0) 0 [some (xr 78 0), none, none] [] h (PoV r) := by
  unfold b_X12_half_r78_0 at hF
  refine x_aload_n (i := 0) (b := 1) dX12_half_0 rfl rfl rfl ?_
  refine x_alen (kind := 0) (ct := 0) (b := 2) ak_78 (by decide) dX12_half_1 rfl ?_
  refine x_eq (y := 18) rfl ?_
  refine x_iconst (n := 2) (b := 3) dX12_half_2 (by decide) rfl ?_
  obtain ⟨hs, hF⟩ := ck_e hF
  refine x_idiv (b := 4) dX12_half_3 hs.1 hs.2 rfl ?_
  obtain ⟨z1, e_z1, hF⟩ := lt_e hF
  refine x_eq (y := z1) e_z1 ?_
  refine x_istore_n (i := 1) (b := 5) (ls2 := [some (xr 78 0), some (xi z1), none]) dX12_half_4 rfl (Nat.le_of_ble_eq_true rfl) rfl rfl ?_
  refine x_iconst (n := 0) (b := 6) dX12_half_5 (by decide) rfl ?_
  refine x_istore_n (i := 2) (b := 7) (ls2 := [some (xr 78 0), some (xi z1), some (xi 0)]) dX12_half_6 rfl (Nat.le_of_ble_eq_true rfl) rfl rfl ?_
  exact x_dp (ls2 := [some (xr 78 0), some (xi z1), some (xi 0)]) ⟨rfl, rfl, rfl, trivial⟩ (hr_7 z1 0 h hL hF)
set_option maxHeartbeats 4000000 in
set_option maxRecDepth 100000 in
theorem t_X12_half_r78_1 (E : xE) (d : Nat) (rec : Rk) (r : Int × Hp) (hr_7 : ∀ (x1 x2 : Int) (h : Hp), Lay h → rec 1 [x1, x2] h = some r → X E mX12_half (d + 1) (0, 0) (0, 0) 7 [some (xr 78 0), some (xi x1), some (xi x2)] [] h (PoV r)) (x1 x2 : Int) (h : Hp) (hL : Lay h) (hF : b_X12_half_r78_1 rec x1 x2 h = some r) : X E mX12_half (d + 1) (0, 0) (0, 0) 7 [some (xr 78 0), some (xi x1), some (xi x2)] [] h (PoV r) := by
  unfold b_X12_half_r78_1 at hF
  refine x_iload_n (i := 2) (b := 8) dX12_half_7 rfl rfl rfl ?_
  refine x_iload_n (i := 1) (b := 9) dX12_half_8 rfl rfl rfl ?_
  refine x_icmp_ge (tgt := 26) (b := 12) dX12_half_9 (by decide) rfl (fun hc => ?_) (fun hc => ?_)
  · replace hF := br_T hc hF
    refine x_return dX12_half_26 rfl ⟨Nat.le_refl _, Nat.le_refl _⟩ ?_
    cases hF
    exact ⟨rfl, rfl, hL⟩
  · replace hF := br_F hc hF
    refine x_aload_n (i := 0) (b := 13) dX12_half_12 rfl rfl rfl ?_
    refine x_iload_n (i := 2) (b := 14) dX12_half_13 rfl rfl rfl ?_
    refine x_aload_n (i := 0) (b := 15) dX12_half_14 rfl rfl rfl ?_
    refine x_iload_n (i := 1) (b := 16) dX12_half_15 rfl rfl rfl ?_
    refine x_iload_n (i := 2) (b := 17) dX12_half_16 rfl rfl rfl ?_
    obtain ⟨hs, hF⟩ := ck_e hF
    refine x_iadd (b := 18) dX12_half_17 hs rfl ?_
    obtain ⟨hs, hF⟩ := ck_e hF
    refine x_iald (v := gI h 78 0 (x1 + x2)) (b := 19) ak_78 dX12_half_18 hs rfl rfl ?_
    obtain ⟨hs, hF⟩ := ck_e hF
    have hs1 := hs
    refine x_iast (b := 20) ak_78 dX12_half_19 hs1 rfl ?_
    obtain ⟨h1, e_h1, hF⟩ := lt_e hF
    refine x_hp (h2 := h1) e_h1 ?_
    replace hL : Lay h1 := by rw [← e_h1]; exact hL
    obtain ⟨hs, hF⟩ := ck_e hF
    refine x_iinc (i := 2) (b := 23) (ls2 := [some (xr 78 0), some (xi x1), some (xi (x2 + 1))]) dX12_half_20 rfl (Nat.le_of_ble_eq_true rfl) hs rfl rfl ?_
    refine x_goto (tgt := 7) dX12_half_23 (by decide) ?_
    exact x_dp (ls2 := [some (xr 78 0), some (xi x1), some (xi (x2 + 1))]) ⟨rfl, rfl, rfl, trivial⟩ (hr_7 x1 (x2 + 1) h1 hL hF)
set_option maxHeartbeats 4000000 in
set_option maxRecDepth 100000 in
theorem u_X12_half_r78 (E : xE) (d : Nat) (r : Int × Hp) : ∀ n : Nat, (∀ (h : Hp), Lay h → g_X12_half_r78 n 0 [] h = some r → X E mX12_half (d + 1) (0, 0) (0, 0) 0 [some (xr 78 0), none, none] [] h (PoV r)) ∧ (∀ (x1 x2 : Int) (h : Hp), Lay h → g_X12_half_r78 n 1 [x1, x2] h = some r → X E mX12_half (d + 1) (0, 0) (0, 0) 7 [some (xr 78 0), some (xi x1), some (xi x2)] [] h (PoV r)) := by
  intro n
  induction n with
  | zero => exact ⟨fun _ _ hF => no_e (r := r) hF, fun _ _ _ _ hF => no_e (r := r) hF⟩
  | succ n ih => exact ⟨fun h hL hF => t_X12_half_r78_0 E d (g_X12_half_r78 n) r ih.2  h hL hF, fun x1 x2 h hL hF => t_X12_half_r78_1 E d (g_X12_half_r78 n) r ih.2 x1 x2 h hL hF⟩
theorem c_X12_half_r78 (d : Nat) (h : Hp) (r : Int × Hp) (hL : Lay h) (hF : f_X12_half_r78  h = some r) : Sp mX12_half (d + 1) (0, 0) [xr 78 0] h (PoV r) :=
  sp_of (by decide) rfl (Nat.le_of_ble_eq_true rfl) (ls := [some (xr 78 0), none, none]) rfl (fun E _ => (u_X12_half_r78 E d r FU).1  h hL hF)
noncomputable def b_X12_half_r79_0 (rec : Rk) (h : Hp) : Option (Int × Hp) :=
  ck ((0 : Int) ≤ 18 ∧ (0 : Int) < 2) <|
  lt (18 / 2) fun z1 =>
  rec 1 [z1, 0] h
noncomputable def b_X12_half_r79_1 (rec : Rk) (x1 x2 : Int) (h : Hp) : Option (Int × Hp) :=
  if x1 ≤ x2 then (
    some (0, h)
  ) else (
    ck (-2147483648 ≤ x1 + x2 ∧ x1 + x2 < 2147483648) <|
    ck (0 ≤ (x1 + x2) ∧ (x1 + x2) < 18) <|
    ck (0 ≤ x2 ∧ x2 < 18) <|
    lt (sI h 79 0 x2 (gI h 79 0 (x1 + x2))) fun h1 =>
    ck (-2147483648 ≤ x2 + 1 ∧ x2 + 1 < 2147483648) <|
    rec 1 [x1, x2 + 1] h1
  )
noncomputable def g_X12_half_r79 (n : Nat) : Rk := Nat.rec (motive := fun _ => Rk) (fun _ _ _ => none) (fun _ rec k l h => if k = 0 then b_X12_half_r79_0 rec  h else if k = 1 then b_X12_half_r79_1 rec (l.getD 0 0) (l.getD 1 0) h else none) n
noncomputable def f_X12_half_r79 (h : Hp) : Option (Int × Hp) := g_X12_half_r79 FU 0 [] h
set_option maxHeartbeats 4000000 in
set_option maxRecDepth 100000 in
theorem t_X12_half_r79_0 (E : xE) (d : Nat) (rec : Rk) (r : Int × Hp) (hr_7 : ∀ (x1 x2 : Int) (h : Hp), Lay h → rec 1 [x1, x2] h = some r → X E mX12_half (d + 1) (0, 0) (0, 0) 7 [some (xr 79 0), some (xi x1), some (xi x2)] [] h (PoV r)) (h : Hp) (hL : Lay h) (hF : b_X12_half_r79_0 rec  h = some r) : X E mX12_half (d + 1) (0, 0) (0, 0) 0 [some (xr 79 0), none, none] [] h (PoV r) := by
  unfold b_X12_half_r79_0 at hF
  refine x_aload_n (i := 0) (b := 1) dX12_half_0 rfl rfl rfl ?_
  refine x_alen (kind := 0) (ct := 0) (b := 2) ak_79 (by decide) dX12_half_1 rfl ?_
  refine x_eq (y := 18) rfl ?_
  refine x_iconst (n := 2) (b := 3) dX12_half_2 (by decide) rfl ?_
  obtain ⟨hs, hF⟩ := ck_e hF
  refine x_idiv (b := 4) dX12_half_3 hs.1 hs.2 rfl ?_
  obtain ⟨z1, e_z1, hF⟩ := lt_e hF
  refine x_eq (y := z1) e_z1 ?_
  refine x_istore_n (i := 1) (b := 5) (ls2 := [some (xr 79 0), some (xi z1), none]) dX12_half_4 rfl (Nat.le_of_ble_eq_true rfl) rfl rfl ?_
  refine x_iconst (n := 0) (b := 6) dX12_half_5 (by decide) rfl ?_
  refine x_istore_n (i := 2) (b := 7) (ls2 := [some (xr 79 0), some (xi z1), some (xi 0)]) dX12_half_6 rfl (Nat.le_of_ble_eq_true rfl) rfl rfl ?_
  exact x_dp (ls2 := [some (xr 79 0), some (xi z1), some (xi 0)]) ⟨rfl, rfl, rfl, trivial⟩ (hr_7 z1 0 h hL hF)
set_option maxHeartbeats 4000000 in
set_option maxRecDepth 100000 in
theorem t_X12_half_r79_1 (E : xE) (d : Nat) (rec : Rk) (r : Int × Hp) (hr_7 : ∀ (x1 x2 : Int) (h : Hp), Lay h → rec 1 [x1, x2] h = some r → X E mX12_half (d + 1) (0, 0) (0, 0) 7 [some (xr 79 0), some (xi x1), some (xi x2)] [] h (PoV r)) (x1 x2 : Int) (h : Hp) (hL : Lay h) (hF : b_X12_half_r79_1 rec x1 x2 h = some r) : X E mX12_half (d + 1) (0, 0) (0, 0) 7 [some (xr 79 0), some (xi x1), some (xi x2)] [] h (PoV r) := by
  unfold b_X12_half_r79_1 at hF
  refine x_iload_n (i := 2) (b := 8) dX12_half_7 rfl rfl rfl ?_
  refine x_iload_n (i := 1) (b := 9) dX12_half_8 rfl rfl rfl ?_
  refine x_icmp_ge (tgt := 26) (b := 12) dX12_half_9 (by decide) rfl (fun hc => ?_) (fun hc => ?_)
  · replace hF := br_T hc hF
    refine x_return dX12_half_26 rfl ⟨Nat.le_refl _, Nat.le_refl _⟩ ?_
    cases hF
    exact ⟨rfl, rfl, hL⟩
  · replace hF := br_F hc hF
    refine x_aload_n (i := 0) (b := 13) dX12_half_12 rfl rfl rfl ?_
    refine x_iload_n (i := 2) (b := 14) dX12_half_13 rfl rfl rfl ?_
    refine x_aload_n (i := 0) (b := 15) dX12_half_14 rfl rfl rfl ?_
    refine x_iload_n (i := 1) (b := 16) dX12_half_15 rfl rfl rfl ?_
    refine x_iload_n (i := 2) (b := 17) dX12_half_16 rfl rfl rfl ?_
    obtain ⟨hs, hF⟩ := ck_e hF
    refine x_iadd (b := 18) dX12_half_17 hs rfl ?_
    obtain ⟨hs, hF⟩ := ck_e hF
    refine x_iald (v := gI h 79 0 (x1 + x2)) (b := 19) ak_79 dX12_half_18 hs rfl rfl ?_
    obtain ⟨hs, hF⟩ := ck_e hF
    have hs1 := hs
    refine x_iast (b := 20) ak_79 dX12_half_19 hs1 rfl ?_
    obtain ⟨h1, e_h1, hF⟩ := lt_e hF
    refine x_hp (h2 := h1) e_h1 ?_
    replace hL : Lay h1 := by rw [← e_h1]; exact hL
    obtain ⟨hs, hF⟩ := ck_e hF
    refine x_iinc (i := 2) (b := 23) (ls2 := [some (xr 79 0), some (xi x1), some (xi (x2 + 1))]) dX12_half_20 rfl (Nat.le_of_ble_eq_true rfl) hs rfl rfl ?_
    refine x_goto (tgt := 7) dX12_half_23 (by decide) ?_
    exact x_dp (ls2 := [some (xr 79 0), some (xi x1), some (xi (x2 + 1))]) ⟨rfl, rfl, rfl, trivial⟩ (hr_7 x1 (x2 + 1) h1 hL hF)
set_option maxHeartbeats 4000000 in
set_option maxRecDepth 100000 in
theorem u_X12_half_r79 (E : xE) (d : Nat) (r : Int × Hp) : ∀ n : Nat, (∀ (h : Hp), Lay h → g_X12_half_r79 n 0 [] h = some r → X E mX12_half (d + 1) (0, 0) (0, 0) 0 [some (xr 79 0), none, none] [] h (PoV r)) ∧ (∀ (x1 x2 : Int) (h : Hp), Lay h → g_X12_half_r79 n 1 [x1, x2] h = some r → X E mX12_half (d + 1) (0, 0) (0, 0) 7 [some (xr 79 0), some (xi x1), some (xi x2)] [] h (PoV r)) := by
  intro n
  induction n with
  | zero => exact ⟨fun _ _ hF => no_e (r := r) hF, fun _ _ _ _ hF => no_e (r := r) hF⟩
  | succ n ih => exact ⟨fun h hL hF => t_X12_half_r79_0 E d (g_X12_half_r79 n) r ih.2  h hL hF, fun x1 x2 h hL hF => t_X12_half_r79_1 E d (g_X12_half_r79 n) r ih.2 x1 x2 h hL hF⟩
theorem c_X12_half_r79 (d : Nat) (h : Hp) (r : Int × Hp) (hL : Lay h) (hF : f_X12_half_r79  h = some r) : Sp mX12_half (d + 1) (0, 0) [xr 79 0] h (PoV r) :=
  sp_of (by decide) rfl (Nat.le_of_ble_eq_true rfl) (ls := [some (xr 79 0), none, none]) rfl (fun E _ => (u_X12_half_r79 E d r FU).1  h hL hF)
noncomputable def b_X12_half_r80_0 (rec : Rk) (h : Hp) : Option (Int × Hp) :=
  ck ((0 : Int) ≤ 18 ∧ (0 : Int) < 2) <|
  lt (18 / 2) fun z1 =>
  rec 1 [z1, 0] h
noncomputable def b_X12_half_r80_1 (rec : Rk) (x1 x2 : Int) (h : Hp) : Option (Int × Hp) :=
  if x1 ≤ x2 then (
    some (0, h)
  ) else (
    ck (-2147483648 ≤ x1 + x2 ∧ x1 + x2 < 2147483648) <|
    ck (0 ≤ (x1 + x2) ∧ (x1 + x2) < 18) <|
    ck (0 ≤ x2 ∧ x2 < 18) <|
    lt (sI h 80 0 x2 (gI h 80 0 (x1 + x2))) fun h1 =>
    ck (-2147483648 ≤ x2 + 1 ∧ x2 + 1 < 2147483648) <|
    rec 1 [x1, x2 + 1] h1
  )
noncomputable def g_X12_half_r80 (n : Nat) : Rk := Nat.rec (motive := fun _ => Rk) (fun _ _ _ => none) (fun _ rec k l h => if k = 0 then b_X12_half_r80_0 rec  h else if k = 1 then b_X12_half_r80_1 rec (l.getD 0 0) (l.getD 1 0) h else none) n
noncomputable def f_X12_half_r80 (h : Hp) : Option (Int × Hp) := g_X12_half_r80 FU 0 [] h
set_option maxHeartbeats 4000000 in
set_option maxRecDepth 100000 in
theorem t_X12_half_r80_0 (E : xE) (d : Nat) (rec : Rk) (r : Int × Hp) (hr_7 : ∀ (x1 x2 : Int) (h : Hp), Lay h → rec 1 [x1, x2] h = some r → X E mX12_half (d + 1) (0, 0) (0, 0) 7 [some (xr 80 0), some (xi x1), some (xi x2)] [] h (PoV r)) (h : Hp) (hL : Lay h) (hF : b_X12_half_r80_0 rec  h = some r) : X E mX12_half (d + 1) (0, 0) (0, 0) 0 [some (xr 80 0), none, none] [] h (PoV r) := by
  unfold b_X12_half_r80_0 at hF
  refine x_aload_n (i := 0) (b := 1) dX12_half_0 rfl rfl rfl ?_
  refine x_alen (kind := 0) (ct := 0) (b := 2) ak_80 (by decide) dX12_half_1 rfl ?_
  refine x_eq (y := 18) rfl ?_
  refine x_iconst (n := 2) (b := 3) dX12_half_2 (by decide) rfl ?_
  obtain ⟨hs, hF⟩ := ck_e hF
  refine x_idiv (b := 4) dX12_half_3 hs.1 hs.2 rfl ?_
  obtain ⟨z1, e_z1, hF⟩ := lt_e hF
  refine x_eq (y := z1) e_z1 ?_
  refine x_istore_n (i := 1) (b := 5) (ls2 := [some (xr 80 0), some (xi z1), none]) dX12_half_4 rfl (Nat.le_of_ble_eq_true rfl) rfl rfl ?_
  refine x_iconst (n := 0) (b := 6) dX12_half_5 (by decide) rfl ?_
  refine x_istore_n (i := 2) (b := 7) (ls2 := [some (xr 80 0), some (xi z1), some (xi 0)]) dX12_half_6 rfl (Nat.le_of_ble_eq_true rfl) rfl rfl ?_
  exact x_dp (ls2 := [some (xr 80 0), some (xi z1), some (xi 0)]) ⟨rfl, rfl, rfl, trivial⟩ (hr_7 z1 0 h hL hF)
set_option maxHeartbeats 4000000 in
set_option maxRecDepth 100000 in
theorem t_X12_half_r80_1 (E : xE) (d : Nat) (rec : Rk) (r : Int × Hp) (hr_7 : ∀ (x1 x2 : Int) (h : Hp), Lay h → rec 1 [x1, x2] h = some r → X E mX12_half (d + 1) (0, 0) (0, 0) 7 [some (xr 80 0), some (xi x1), some (xi x2)] [] h (PoV r)) (x1 x2 : Int) (h : Hp) (hL : Lay h) (hF : b_X12_half_r80_1 rec x1 x2 h = some r) : X E mX12_half (d + 1) (0, 0) (0, 0) 7 [some (xr 80 0), some (xi x1), some (xi x2)] [] h (PoV r) := by
  unfold b_X12_half_r80_1 at hF
  refine x_iload_n (i := 2) (b := 8) dX12_half_7 rfl rfl rfl ?_
  refine x_iload_n (i := 1) (b := 9) dX12_half_8 rfl rfl rfl ?_
  refine x_icmp_ge (tgt := 26) (b := 12) dX12_half_9 (by decide) rfl (fun hc => ?_) (fun hc => ?_)
  · replace hF := br_T hc hF
    refine x_return dX12_half_26 rfl ⟨Nat.le_refl _, Nat.le_refl _⟩ ?_
    cases hF
    exact ⟨rfl, rfl, hL⟩
  · replace hF := br_F hc hF
    refine x_aload_n (i := 0) (b := 13) dX12_half_12 rfl rfl rfl ?_
    refine x_iload_n (i := 2) (b := 14) dX12_half_13 rfl rfl rfl ?_
    refine x_aload_n (i := 0) (b := 15) dX12_half_14 rfl rfl rfl ?_
    refine x_iload_n (i := 1) (b := 16) dX12_half_15 rfl rfl rfl ?_
    refine x_iload_n (i := 2) (b := 17) dX12_half_16 rfl rfl rfl ?_
    obtain ⟨hs, hF⟩ := ck_e hF
    refine x_iadd (b := 18) dX12_half_17 hs rfl ?_
    obtain ⟨hs, hF⟩ := ck_e hF
    refine x_iald (v := gI h 80 0 (x1 + x2)) (b := 19) ak_80 dX12_half_18 hs rfl rfl ?_
    obtain ⟨hs, hF⟩ := ck_e hF
    have hs1 := hs
    refine x_iast (b := 20) ak_80 dX12_half_19 hs1 rfl ?_
    obtain ⟨h1, e_h1, hF⟩ := lt_e hF
    refine x_hp (h2 := h1) e_h1 ?_
    replace hL : Lay h1 := by rw [← e_h1]; exact hL
    obtain ⟨hs, hF⟩ := ck_e hF
    refine x_iinc (i := 2) (b := 23) (ls2 := [some (xr 80 0), some (xi x1), some (xi (x2 + 1))]) dX12_half_20 rfl (Nat.le_of_ble_eq_true rfl) hs rfl rfl ?_
    refine x_goto (tgt := 7) dX12_half_23 (by decide) ?_
    exact x_dp (ls2 := [some (xr 80 0), some (xi x1), some (xi (x2 + 1))]) ⟨rfl, rfl, rfl, trivial⟩ (hr_7 x1 (x2 + 1) h1 hL hF)
set_option maxHeartbeats 4000000 in
set_option maxRecDepth 100000 in
theorem u_X12_half_r80 (E : xE) (d : Nat) (r : Int × Hp) : ∀ n : Nat, (∀ (h : Hp), Lay h → g_X12_half_r80 n 0 [] h = some r → X E mX12_half (d + 1) (0, 0) (0, 0) 0 [some (xr 80 0), none, none] [] h (PoV r)) ∧ (∀ (x1 x2 : Int) (h : Hp), Lay h → g_X12_half_r80 n 1 [x1, x2] h = some r → X E mX12_half (d + 1) (0, 0) (0, 0) 7 [some (xr 80 0), some (xi x1), some (xi x2)] [] h (PoV r)) := by
  intro n
  induction n with
  | zero => exact ⟨fun _ _ hF => no_e (r := r) hF, fun _ _ _ _ hF => no_e (r := r) hF⟩
  | succ n ih => exact ⟨fun h hL hF => t_X12_half_r80_0 E d (g_X12_half_r80 n) r ih.2  h hL hF, fun x1 x2 h hL hF => t_X12_half_r80_1 E d (g_X12_half_r80 n) r ih.2 x1 x2 h hL hF⟩
theorem c_X12_half_r80 (d : Nat) (h : Hp) (r : Int × Hp) (hL : Lay h) (hF : f_X12_half_r80  h = some r) : Sp mX12_half (d + 1) (0, 0) [xr 80 0] h (PoV r) :=
  sp_of (by decide) rfl (Nat.le_of_ble_eq_true rfl) (ls := [some (xr 80 0), none, none]) rfl (fun E _ => (u_X12_half_r80 E d r FU).1  h hL hF)
noncomputable def b_X12_half_r81_0 (rec : Rk) (h : Hp) : Option (Int × Hp) :=
  ck ((0 : Int) ≤ 128 ∧ (0 : Int) < 2) <|
  lt (128 / 2) fun z1 =>
  rec 1 [z1, 0] h
noncomputable def b_X12_half_r81_1 (rec : Rk) (x1 x2 : Int) (h : Hp) : Option (Int × Hp) :=
  if x1 ≤ x2 then (
    some (0, h)
  ) else (
    ck (-2147483648 ≤ x1 + x2 ∧ x1 + x2 < 2147483648) <|
    ck (0 ≤ (x1 + x2) ∧ (x1 + x2) < 128) <|
    ck (0 ≤ x2 ∧ x2 < 128) <|
    lt (sI h 81 0 x2 (gI h 81 0 (x1 + x2))) fun h1 =>
    ck (-2147483648 ≤ x2 + 1 ∧ x2 + 1 < 2147483648) <|
    rec 1 [x1, x2 + 1] h1
  )
noncomputable def g_X12_half_r81 (n : Nat) : Rk := Nat.rec (motive := fun _ => Rk) (fun _ _ _ => none) (fun _ rec k l h => if k = 0 then b_X12_half_r81_0 rec  h else if k = 1 then b_X12_half_r81_1 rec (l.getD 0 0) (l.getD 1 0) h else none) n
noncomputable def f_X12_half_r81 (h : Hp) : Option (Int × Hp) := g_X12_half_r81 FU 0 [] h
set_option maxHeartbeats 4000000 in
set_option maxRecDepth 100000 in
theorem t_X12_half_r81_0 (E : xE) (d : Nat) (rec : Rk) (r : Int × Hp) (hr_7 : ∀ (x1 x2 : Int) (h : Hp), Lay h → rec 1 [x1, x2] h = some r → X E mX12_half (d + 1) (0, 0) (0, 0) 7 [some (xr 81 0), some (xi x1), some (xi x2)] [] h (PoV r)) (h : Hp) (hL : Lay h) (hF : b_X12_half_r81_0 rec  h = some r) : X E mX12_half (d + 1) (0, 0) (0, 0) 0 [some (xr 81 0), none, none] [] h (PoV r) := by
  unfold b_X12_half_r81_0 at hF
  refine x_aload_n (i := 0) (b := 1) dX12_half_0 rfl rfl rfl ?_
  refine x_alen (kind := 0) (ct := 0) (b := 2) ak_81 (by decide) dX12_half_1 rfl ?_
  refine x_eq (y := 128) rfl ?_
  refine x_iconst (n := 2) (b := 3) dX12_half_2 (by decide) rfl ?_
  obtain ⟨hs, hF⟩ := ck_e hF
  refine x_idiv (b := 4) dX12_half_3 hs.1 hs.2 rfl ?_
  obtain ⟨z1, e_z1, hF⟩ := lt_e hF
  refine x_eq (y := z1) e_z1 ?_
  refine x_istore_n (i := 1) (b := 5) (ls2 := [some (xr 81 0), some (xi z1), none]) dX12_half_4 rfl (Nat.le_of_ble_eq_true rfl) rfl rfl ?_
  refine x_iconst (n := 0) (b := 6) dX12_half_5 (by decide) rfl ?_
  refine x_istore_n (i := 2) (b := 7) (ls2 := [some (xr 81 0), some (xi z1), some (xi 0)]) dX12_half_6 rfl (Nat.le_of_ble_eq_true rfl) rfl rfl ?_
  exact x_dp (ls2 := [some (xr 81 0), some (xi z1), some (xi 0)]) ⟨rfl, rfl, rfl, trivial⟩ (hr_7 z1 0 h hL hF)
set_option maxHeartbeats 4000000 in
set_option maxRecDepth 100000 in
theorem t_X12_half_r81_1 (E : xE) (d : Nat) (rec : Rk) (r : Int × Hp) (hr_7 : ∀ (x1 x2 : Int) (h : Hp), Lay h → rec 1 [x1, x2] h = some r → X E mX12_half (d + 1) (0, 0) (0, 0) 7 [some (xr 81 0), some (xi x1), some (xi x2)] [] h (PoV r)) (x1 x2 : Int) (h : Hp) (hL : Lay h) (hF : b_X12_half_r81_1 rec x1 x2 h = some r) : X E mX12_half (d + 1) (0, 0) (0, 0) 7 [some (xr 81 0), some (xi x1), some (xi x2)] [] h (PoV r) := by
  unfold b_X12_half_r81_1 at hF
  refine x_iload_n (i := 2) (b := 8) dX12_half_7 rfl rfl rfl ?_
  refine x_iload_n (i := 1) (b := 9) dX12_half_8 rfl rfl rfl ?_
  refine x_icmp_ge (tgt := 26) (b := 12) dX12_half_9 (by decide) rfl (fun hc => ?_) (fun hc => ?_)
  · replace hF := br_T hc hF
    refine x_return dX12_half_26 rfl ⟨Nat.le_refl _, Nat.le_refl _⟩ ?_
    cases hF
    exact ⟨rfl, rfl, hL⟩
  · replace hF := br_F hc hF
    refine x_aload_n (i := 0) (b := 13) dX12_half_12 rfl rfl rfl ?_
    refine x_iload_n (i := 2) (b := 14) dX12_half_13 rfl rfl rfl ?_
    refine x_aload_n (i := 0) (b := 15) dX12_half_14 rfl rfl rfl ?_
    refine x_iload_n (i := 1) (b := 16) dX12_half_15 rfl rfl rfl ?_
    refine x_iload_n (i := 2) (b := 17) dX12_half_16 rfl rfl rfl ?_
    obtain ⟨hs, hF⟩ := ck_e hF
    refine x_iadd (b := 18) dX12_half_17 hs rfl ?_
    obtain ⟨hs, hF⟩ := ck_e hF
    refine x_iald (v := gI h 81 0 (x1 + x2)) (b := 19) ak_81 dX12_half_18 hs rfl rfl ?_
    obtain ⟨hs, hF⟩ := ck_e hF
    have hs1 := hs
    refine x_iast (b := 20) ak_81 dX12_half_19 hs1 rfl ?_
    obtain ⟨h1, e_h1, hF⟩ := lt_e hF
    refine x_hp (h2 := h1) e_h1 ?_
    replace hL : Lay h1 := by rw [← e_h1]; exact hL
    obtain ⟨hs, hF⟩ := ck_e hF
    refine x_iinc (i := 2) (b := 23) (ls2 := [some (xr 81 0), some (xi x1), some (xi (x2 + 1))]) dX12_half_20 rfl (Nat.le_of_ble_eq_true rfl) hs rfl rfl ?_
    refine x_goto (tgt := 7) dX12_half_23 (by decide) ?_
    exact x_dp (ls2 := [some (xr 81 0), some (xi x1), some (xi (x2 + 1))]) ⟨rfl, rfl, rfl, trivial⟩ (hr_7 x1 (x2 + 1) h1 hL hF)
set_option maxHeartbeats 4000000 in
set_option maxRecDepth 100000 in
theorem u_X12_half_r81 (E : xE) (d : Nat) (r : Int × Hp) : ∀ n : Nat, (∀ (h : Hp), Lay h → g_X12_half_r81 n 0 [] h = some r → X E mX12_half (d + 1) (0, 0) (0, 0) 0 [some (xr 81 0), none, none] [] h (PoV r)) ∧ (∀ (x1 x2 : Int) (h : Hp), Lay h → g_X12_half_r81 n 1 [x1, x2] h = some r → X E mX12_half (d + 1) (0, 0) (0, 0) 7 [some (xr 81 0), some (xi x1), some (xi x2)] [] h (PoV r)) := by
  intro n
  induction n with
  | zero => exact ⟨fun _ _ hF => no_e (r := r) hF, fun _ _ _ _ hF => no_e (r := r) hF⟩
  | succ n ih => exact ⟨fun h hL hF => t_X12_half_r81_0 E d (g_X12_half_r81 n) r ih.2  h hL hF, fun x1 x2 h hL hF => t_X12_half_r81_1 E d (g_X12_half_r81 n) r ih.2 x1 x2 h hL hF⟩
theorem c_X12_half_r81 (d : Nat) (h : Hp) (r : Int × Hp) (hL : Lay h) (hF : f_X12_half_r81  h = some r) : Sp mX12_half (d + 1) (0, 0) [xr 81 0] h (PoV r) :=
  sp_of (by decide) rfl (Nat.le_of_ble_eq_true rfl) (ls := [some (xr 81 0), none, none]) rfl (fun E _ => (u_X12_half_r81 E d r FU).1  h hL hF)
noncomputable def b_X12_half_r82_0 (rec : Rk) (h : Hp) : Option (Int × Hp) :=
  ck ((0 : Int) ≤ 128 ∧ (0 : Int) < 2) <|
  lt (128 / 2) fun z1 =>
  rec 1 [z1, 0] h
noncomputable def b_X12_half_r82_1 (rec : Rk) (x1 x2 : Int) (h : Hp) : Option (Int × Hp) :=
  if x1 ≤ x2 then (
    some (0, h)
  ) else (
    ck (-2147483648 ≤ x1 + x2 ∧ x1 + x2 < 2147483648) <|
    ck (0 ≤ (x1 + x2) ∧ (x1 + x2) < 128) <|
    ck (0 ≤ x2 ∧ x2 < 128) <|
    lt (sI h 82 0 x2 (gI h 82 0 (x1 + x2))) fun h1 =>
    ck (-2147483648 ≤ x2 + 1 ∧ x2 + 1 < 2147483648) <|
    rec 1 [x1, x2 + 1] h1
  )
noncomputable def g_X12_half_r82 (n : Nat) : Rk := Nat.rec (motive := fun _ => Rk) (fun _ _ _ => none) (fun _ rec k l h => if k = 0 then b_X12_half_r82_0 rec  h else if k = 1 then b_X12_half_r82_1 rec (l.getD 0 0) (l.getD 1 0) h else none) n
noncomputable def f_X12_half_r82 (h : Hp) : Option (Int × Hp) := g_X12_half_r82 FU 0 [] h
set_option maxHeartbeats 4000000 in
set_option maxRecDepth 100000 in
theorem t_X12_half_r82_0 (E : xE) (d : Nat) (rec : Rk) (r : Int × Hp) (hr_7 : ∀ (x1 x2 : Int) (h : Hp), Lay h → rec 1 [x1, x2] h = some r → X E mX12_half (d + 1) (0, 0) (0, 0) 7 [some (xr 82 0), some (xi x1), some (xi x2)] [] h (PoV r)) (h : Hp) (hL : Lay h) (hF : b_X12_half_r82_0 rec  h = some r) : X E mX12_half (d + 1) (0, 0) (0, 0) 0 [some (xr 82 0), none, none] [] h (PoV r) := by
  unfold b_X12_half_r82_0 at hF
  refine x_aload_n (i := 0) (b := 1) dX12_half_0 rfl rfl rfl ?_
  refine x_alen (kind := 0) (ct := 0) (b := 2) ak_82 (by decide) dX12_half_1 rfl ?_
  refine x_eq (y := 128) rfl ?_
  refine x_iconst (n := 2) (b := 3) dX12_half_2 (by decide) rfl ?_
  obtain ⟨hs, hF⟩ := ck_e hF
  refine x_idiv (b := 4) dX12_half_3 hs.1 hs.2 rfl ?_
  obtain ⟨z1, e_z1, hF⟩ := lt_e hF
  refine x_eq (y := z1) e_z1 ?_
  refine x_istore_n (i := 1) (b := 5) (ls2 := [some (xr 82 0), some (xi z1), none]) dX12_half_4 rfl (Nat.le_of_ble_eq_true rfl) rfl rfl ?_
  refine x_iconst (n := 0) (b := 6) dX12_half_5 (by decide) rfl ?_
  refine x_istore_n (i := 2) (b := 7) (ls2 := [some (xr 82 0), some (xi z1), some (xi 0)]) dX12_half_6 rfl (Nat.le_of_ble_eq_true rfl) rfl rfl ?_
  exact x_dp (ls2 := [some (xr 82 0), some (xi z1), some (xi 0)]) ⟨rfl, rfl, rfl, trivial⟩ (hr_7 z1 0 h hL hF)
set_option maxHeartbeats 4000000 in
set_option maxRecDepth 100000 in
theorem t_X12_half_r82_1 (E : xE) (d : Nat) (rec : Rk) (r : Int × Hp) (hr_7 : ∀ (x1 x2 : Int) (h : Hp), Lay h → rec 1 [x1, x2] h = some r → X E mX12_half (d + 1) (0, 0) (0, 0) 7 [some (xr 82 0), some (xi x1), some (xi x2)] [] h (PoV r)) (x1 x2 : Int) (h : Hp) (hL : Lay h) (hF : b_X12_half_r82_1 rec x1 x2 h = some r) : X E mX12_half (d + 1) (0, 0) (0, 0) 7 [some (xr 82 0), some (xi x1), some (xi x2)] [] h (PoV r) := by
  unfold b_X12_half_r82_1 at hF
  refine x_iload_n (i := 2) (b := 8) dX12_half_7 rfl rfl rfl ?_
  refine x_iload_n (i := 1) (b := 9) dX12_half_8 rfl rfl rfl ?_
  refine x_icmp_ge (tgt := 26) (b := 12) dX12_half_9 (by decide) rfl (fun hc => ?_) (fun hc => ?_)
  · replace hF := br_T hc hF
    refine x_return dX12_half_26 rfl ⟨Nat.le_refl _, Nat.le_refl _⟩ ?_
    cases hF
    exact ⟨rfl, rfl, hL⟩
  · replace hF := br_F hc hF
    refine x_aload_n (i := 0) (b := 13) dX12_half_12 rfl rfl rfl ?_
    refine x_iload_n (i := 2) (b := 14) dX12_half_13 rfl rfl rfl ?_
    refine x_aload_n (i := 0) (b := 15) dX12_half_14 rfl rfl rfl ?_
    refine x_iload_n (i := 1) (b := 16) dX12_half_15 rfl rfl rfl ?_
    refine x_iload_n (i := 2) (b := 17) dX12_half_16 rfl rfl rfl ?_
    obtain ⟨hs, hF⟩ := ck_e hF
    refine x_iadd (b := 18) dX12_half_17 hs rfl ?_
    obtain ⟨hs, hF⟩ := ck_e hF
    refine x_iald (v := gI h 82 0 (x1 + x2)) (b := 19) ak_82 dX12_half_18 hs rfl rfl ?_
    obtain ⟨hs, hF⟩ := ck_e hF
    have hs1 := hs
    refine x_iast (b := 20) ak_82 dX12_half_19 hs1 rfl ?_
    obtain ⟨h1, e_h1, hF⟩ := lt_e hF
    refine x_hp (h2 := h1) e_h1 ?_
    replace hL : Lay h1 := by rw [← e_h1]; exact hL
    obtain ⟨hs, hF⟩ := ck_e hF
    refine x_iinc (i := 2) (b := 23) (ls2 := [some (xr 82 0), some (xi x1), some (xi (x2 + 1))]) dX12_half_20 rfl (Nat.le_of_ble_eq_true rfl) hs rfl rfl ?_
    refine x_goto (tgt := 7) dX12_half_23 (by decide) ?_
    exact x_dp (ls2 := [some (xr 82 0), some (xi x1), some (xi (x2 + 1))]) ⟨rfl, rfl, rfl, trivial⟩ (hr_7 x1 (x2 + 1) h1 hL hF)
set_option maxHeartbeats 4000000 in
set_option maxRecDepth 100000 in
theorem u_X12_half_r82 (E : xE) (d : Nat) (r : Int × Hp) : ∀ n : Nat, (∀ (h : Hp), Lay h → g_X12_half_r82 n 0 [] h = some r → X E mX12_half (d + 1) (0, 0) (0, 0) 0 [some (xr 82 0), none, none] [] h (PoV r)) ∧ (∀ (x1 x2 : Int) (h : Hp), Lay h → g_X12_half_r82 n 1 [x1, x2] h = some r → X E mX12_half (d + 1) (0, 0) (0, 0) 7 [some (xr 82 0), some (xi x1), some (xi x2)] [] h (PoV r)) := by
  intro n
  induction n with
  | zero => exact ⟨fun _ _ hF => no_e (r := r) hF, fun _ _ _ _ hF => no_e (r := r) hF⟩
  | succ n ih => exact ⟨fun h hL hF => t_X12_half_r82_0 E d (g_X12_half_r82 n) r ih.2  h hL hF, fun x1 x2 h hL hF => t_X12_half_r82_1 E d (g_X12_half_r82 n) r ih.2 x1 x2 h hL hF⟩
theorem c_X12_half_r82 (d : Nat) (h : Hp) (r : Int × Hp) (hL : Lay h) (hF : f_X12_half_r82  h = some r) : Sp mX12_half (d + 1) (0, 0) [xr 82 0] h (PoV r) :=
  sp_of (by decide) rfl (Nat.le_of_ble_eq_true rfl) (ls := [some (xr 82 0), none, none]) rfl (fun E _ => (u_X12_half_r82 E d r FU).1  h hL hF)
theorem dX12_found_0 : decode cX12_found 0 = .ok (.iconst 0, 1) := by decide +kernel
theorem dX12_found_1 : decode cX12_found 1 = .ok (.istore 4, 2) := by decide +kernel
theorem dX12_found_3 : decode cX12_found 3 = .ok (.iload 4, 2) := by decide +kernel
theorem dX12_found_5 : decode cX12_found 5 = .ok (.iload_n 2, 1) := by decide +kernel
theorem dX12_found_6 : decode cX12_found 6 = .ok (.if_icmp .ge 22, 3) := by decide +kernel
theorem dX12_found_9 : decode cX12_found 9 = .ok (.aload_n 0, 1) := by decide +kernel
theorem dX12_found_10 : decode cX12_found 10 = .ok (.iload_n 1, 1) := by decide +kernel
theorem dX12_found_11 : decode cX12_found 11 = .ok (.iload 4, 2) := by decide +kernel
theorem dX12_found_13 : decode cX12_found 13 = .ok (.iadd, 1) := by decide +kernel
theorem dX12_found_14 : decode cX12_found 14 = .ok (.iaload, 1) := by decide +kernel
theorem dX12_found_15 : decode cX12_found 15 = .ok (.iload_n 3, 1) := by decide +kernel
theorem dX12_found_16 : decode cX12_found 16 = .ok (.if_icmp .ne 6, 3) := by decide +kernel
theorem dX12_found_19 : decode cX12_found 19 = .ok (.iload 4, 2) := by decide +kernel
theorem dX12_found_21 : decode cX12_found 21 = .ok (.ireturn, 1) := by decide +kernel
theorem dX12_found_22 : decode cX12_found 22 = .ok (.iinc 4 1, 3) := by decide +kernel
theorem dX12_found_25 : decode cX12_found 25 = .ok (.goto (-22), 3) := by decide +kernel
theorem dX12_found_28 : decode cX12_found 28 = .ok (.iconst (-1), 1) := by decide +kernel
theorem dX12_found_29 : decode cX12_found 29 = .ok (.ireturn, 1) := by decide +kernel
noncomputable def b_X12_found_r63_0 (rec : Rk) (x1 x2 x3 : Int) (h : Hp) : Option (Int × Hp) :=
  rec 1 [x1, x2, x3, 0] h
noncomputable def b_X12_found_r63_1 (rec : Rk) (x1 x2 x3 x4 : Int) (h : Hp) : Option (Int × Hp) :=
  if x2 ≤ x4 then (
    some ((-1), h)
  ) else (
    ck (-2147483648 ≤ x1 + x4 ∧ x1 + x4 < 2147483648) <|
    ck (0 ≤ (x1 + x4) ∧ (x1 + x4) < 6) <|
    if (gI h 63 0 (x1 + x4)) = x3 then (
      some (x4, h)
    ) else (
      ck (-2147483648 ≤ x4 + 1 ∧ x4 + 1 < 2147483648) <|
      rec 1 [x1, x2, x3, x4 + 1] h
    )
  )
noncomputable def g_X12_found_r63 (n : Nat) : Rk := Nat.rec (motive := fun _ => Rk) (fun _ _ _ => none) (fun _ rec k l h => if k = 0 then b_X12_found_r63_0 rec (l.getD 0 0) (l.getD 1 0) (l.getD 2 0) h else if k = 1 then b_X12_found_r63_1 rec (l.getD 0 0) (l.getD 1 0) (l.getD 2 0) (l.getD 3 0) h else none) n
noncomputable def f_X12_found_r63 (x1 x2 x3 : Int) (h : Hp) : Option (Int × Hp) := g_X12_found_r63 FU 0 [x1, x2, x3] h
set_option maxHeartbeats 4000000 in
set_option maxRecDepth 100000 in
theorem t_X12_found_r63_0 (E : xE) (d : Nat) (rec : Rk) (r : Int × Hp) (hr_3 : ∀ (x1 x2 x3 x4 : Int) (h : Hp), Lay h → rec 1 [x1, x2, x3, x4] h = some r → X E mX12_found (d + 1) (0, 0) (0, 0) 3 [some (xr 63 0), some (xi x1), some (xi x2), some (xi x3), some (xi x4)] [] h (PoI r)) (x1 x2 x3 : Int) (h : Hp) (hL : Lay h) (hF : b_X12_found_r63_0 rec x1 x2 x3 h = some r) : X E mX12_found (d + 1) (0, 0) (0, 0) 0 [some (xr 63 0), some (xi x1), some (xi x2), some (xi x3), none] [] h (PoI r) := by
  unfold b_X12_found_r63_0 at hF
  refine x_iconst (n := 0) (b := 1) dX12_found_0 (by decide) rfl ?_
  refine x_istore (i := 4) (b := 3) (ls2 := [some (xr 63 0), some (xi x1), some (xi x2), some (xi x3), some (xi 0)]) dX12_found_1 (Nat.le_of_ble_eq_true rfl) rfl rfl ?_
  exact x_dp (ls2 := [some (xr 63 0), some (xi x1), some (xi x2), some (xi x3), some (xi 0)]) ⟨rfl, rfl, rfl, rfl, rfl, trivial⟩ (hr_3 x1 x2 x3 0 h hL hF)
set_option maxHeartbeats 4000000 in
set_option maxRecDepth 100000 in
theorem t_X12_found_r63_1 (E : xE) (d : Nat) (rec : Rk) (r : Int × Hp) (hr_3 : ∀ (x1 x2 x3 x4 : Int) (h : Hp), Lay h → rec 1 [x1, x2, x3, x4] h = some r → X E mX12_found (d + 1) (0, 0) (0, 0) 3 [some (xr 63 0), some (xi x1), some (xi x2), some (xi x3), some (xi x4)] [] h (PoI r)) (x1 x2 x3 x4 : Int) (h : Hp) (hL : Lay h) (hF : b_X12_found_r63_1 rec x1 x2 x3 x4 h = some r) : X E mX12_found (d + 1) (0, 0) (0, 0) 3 [some (xr 63 0), some (xi x1), some (xi x2), some (xi x3), some (xi x4)] [] h (PoI r) := by
  unfold b_X12_found_r63_1 at hF
  refine x_iload (i := 4) (b := 5) dX12_found_3 rfl rfl ?_
  refine x_iload_n (i := 2) (b := 6) dX12_found_5 rfl rfl rfl ?_
  refine x_icmp_ge (tgt := 28) (b := 9) dX12_found_6 (by decide) rfl (fun hc => ?_) (fun hc => ?_)
  · replace hF := br_T hc hF
    refine x_iconst (n := (-1)) (b := 29) dX12_found_28 (by decide) rfl ?_
    refine x_ireturn dX12_found_29 rfl ⟨Nat.le_refl _, Nat.le_refl _⟩ ?_
    cases hF
    exact ⟨rfl, rfl, hL⟩
  · replace hF := br_F hc hF
    refine x_aload_n (i := 0) (b := 10) dX12_found_9 rfl rfl rfl ?_
    refine x_iload_n (i := 1) (b := 11) dX12_found_10 rfl rfl rfl ?_
    refine x_iload (i := 4) (b := 13) dX12_found_11 rfl rfl ?_
    obtain ⟨hs, hF⟩ := ck_e hF
    refine x_iadd (b := 14) dX12_found_13 hs rfl ?_
    obtain ⟨hs, hF⟩ := ck_e hF
    refine x_iald (v := gI h 63 0 (x1 + x4)) (b := 15) ak_63 dX12_found_14 hs rfl rfl ?_
    refine x_iload_n (i := 3) (b := 16) dX12_found_15 rfl rfl rfl ?_
    refine x_icmp_ne (tgt := 22) (b := 19) dX12_found_16 (by decide) rfl (fun hc => ?_) (fun hc => ?_)
    · replace hF := br_F hc hF
      obtain ⟨hs, hF⟩ := ck_e hF
      refine x_iinc (i := 4) (b := 25) (ls2 := [some (xr 63 0), some (xi x1), some (xi x2), some (xi x3), some (xi (x4 + 1))]) dX12_found_22 rfl (Nat.le_of_ble_eq_true rfl) hs rfl rfl ?_
      refine x_goto (tgt := 3) dX12_found_25 (by decide) ?_
      exact x_dp (ls2 := [some (xr 63 0), some (xi x1), some (xi x2), some (xi x3), some (xi (x4 + 1))]) ⟨rfl, rfl, rfl, rfl, rfl, trivial⟩ (hr_3 x1 x2 x3 (x4 + 1) h hL hF)
    · replace hF := br_T hc hF
      refine x_iload (i := 4) (b := 21) dX12_found_19 rfl rfl ?_
      refine x_ireturn dX12_found_21 rfl ⟨Nat.le_refl _, Nat.le_refl _⟩ ?_
      cases hF
      exact ⟨rfl, rfl, hL⟩
set_option maxHeartbeats 4000000 in
set_option maxRecDepth 100000 in
theorem u_X12_found_r63 (E : xE) (d : Nat) (r : Int × Hp) : ∀ n : Nat, (∀ (x1 x2 x3 : Int) (h : Hp), Lay h → g_X12_found_r63 n 0 [x1, x2, x3] h = some r → X E mX12_found (d + 1) (0, 0) (0, 0) 0 [some (xr 63 0), some (xi x1), some (xi x2), some (xi x3), none] [] h (PoI r)) ∧ (∀ (x1 x2 x3 x4 : Int) (h : Hp), Lay h → g_X12_found_r63 n 1 [x1, x2, x3, x4] h = some r → X E mX12_found (d + 1) (0, 0) (0, 0) 3 [some (xr 63 0), some (xi x1), some (xi x2), some (xi x3), some (xi x4)] [] h (PoI r)) := by
  intro n
  induction n with
  | zero => exact ⟨fun _ _ _ _ _ hF => no_e (r := r) hF, fun _ _ _ _ _ _ hF => no_e (r := r) hF⟩
  | succ n ih => exact ⟨fun x1 x2 x3 h hL hF => t_X12_found_r63_0 E d (g_X12_found_r63 n) r ih.2 x1 x2 x3 h hL hF, fun x1 x2 x3 x4 h hL hF => t_X12_found_r63_1 E d (g_X12_found_r63 n) r ih.2 x1 x2 x3 x4 h hL hF⟩
theorem c_X12_found_r63 (d : Nat) (x1 x2 x3 : Int) (h : Hp) (r : Int × Hp) (hL : Lay h) (hF : f_X12_found_r63 x1 x2 x3 h = some r) : Sp mX12_found (d + 1) (0, 0) [xr 63 0, xi x1, xi x2, xi x3] h (PoI r) :=
  sp_of (by decide) rfl (Nat.le_of_ble_eq_true rfl) (ls := [some (xr 63 0), some (xi x1), some (xi x2), some (xi x3), none]) rfl (fun E _ => (u_X12_found_r63 E d r FU).1 x1 x2 x3 h hL hF)
noncomputable def b_X12_found_r71_0 (rec : Rk) (x1 x2 x3 : Int) (h : Hp) : Option (Int × Hp) :=
  rec 1 [x1, x2, x3, 0] h
noncomputable def b_X12_found_r71_1 (rec : Rk) (x1 x2 x3 x4 : Int) (h : Hp) : Option (Int × Hp) :=
  if x2 ≤ x4 then (
    some ((-1), h)
  ) else (
    ck (-2147483648 ≤ x1 + x4 ∧ x1 + x4 < 2147483648) <|
    ck (0 ≤ (x1 + x4) ∧ (x1 + x4) < 18) <|
    if (gI h 71 0 (x1 + x4)) = x3 then (
      some (x4, h)
    ) else (
      ck (-2147483648 ≤ x4 + 1 ∧ x4 + 1 < 2147483648) <|
      rec 1 [x1, x2, x3, x4 + 1] h
    )
  )
noncomputable def g_X12_found_r71 (n : Nat) : Rk := Nat.rec (motive := fun _ => Rk) (fun _ _ _ => none) (fun _ rec k l h => if k = 0 then b_X12_found_r71_0 rec (l.getD 0 0) (l.getD 1 0) (l.getD 2 0) h else if k = 1 then b_X12_found_r71_1 rec (l.getD 0 0) (l.getD 1 0) (l.getD 2 0) (l.getD 3 0) h else none) n
noncomputable def f_X12_found_r71 (x1 x2 x3 : Int) (h : Hp) : Option (Int × Hp) := g_X12_found_r71 FU 0 [x1, x2, x3] h
set_option maxHeartbeats 4000000 in
set_option maxRecDepth 100000 in
theorem t_X12_found_r71_0 (E : xE) (d : Nat) (rec : Rk) (r : Int × Hp) (hr_3 : ∀ (x1 x2 x3 x4 : Int) (h : Hp), Lay h → rec 1 [x1, x2, x3, x4] h = some r → X E mX12_found (d + 1) (0, 0) (0, 0) 3 [some (xr 71 0), some (xi x1), some (xi x2), some (xi x3), some (xi x4)] [] h (PoI r)) (x1 x2 x3 : Int) (h : Hp) (hL : Lay h) (hF : b_X12_found_r71_0 rec x1 x2 x3 h = some r) : X E mX12_found (d + 1) (0, 0) (0, 0) 0 [some (xr 71 0), some (xi x1), some (xi x2), some (xi x3), none] [] h (PoI r) := by
  unfold b_X12_found_r71_0 at hF
  refine x_iconst (n := 0) (b := 1) dX12_found_0 (by decide) rfl ?_
  refine x_istore (i := 4) (b := 3) (ls2 := [some (xr 71 0), some (xi x1), some (xi x2), some (xi x3), some (xi 0)]) dX12_found_1 (Nat.le_of_ble_eq_true rfl) rfl rfl ?_
  exact x_dp (ls2 := [some (xr 71 0), some (xi x1), some (xi x2), some (xi x3), some (xi 0)]) ⟨rfl, rfl, rfl, rfl, rfl, trivial⟩ (hr_3 x1 x2 x3 0 h hL hF)
set_option maxHeartbeats 4000000 in
set_option maxRecDepth 100000 in
theorem t_X12_found_r71_1 (E : xE) (d : Nat) (rec : Rk) (r : Int × Hp) (hr_3 : ∀ (x1 x2 x3 x4 : Int) (h : Hp), Lay h → rec 1 [x1, x2, x3, x4] h = some r → X E mX12_found (d + 1) (0, 0) (0, 0) 3 [some (xr 71 0), some (xi x1), some (xi x2), some (xi x3), some (xi x4)] [] h (PoI r)) (x1 x2 x3 x4 : Int) (h : Hp) (hL : Lay h) (hF : b_X12_found_r71_1 rec x1 x2 x3 x4 h = some r) : X E mX12_found (d + 1) (0, 0) (0, 0) 3 [some (xr 71 0), some (xi x1), some (xi x2), some (xi x3), some (xi x4)] [] h (PoI r) := by
  unfold b_X12_found_r71_1 at hF
  refine x_iload (i := 4) (b := 5) dX12_found_3 rfl rfl ?_
  refine x_iload_n (i := 2) (b := 6) dX12_found_5 rfl rfl rfl ?_
  refine x_icmp_ge (tgt := 28) (b := 9) dX12_found_6 (by decide) rfl (fun hc => ?_) (fun hc => ?_)
  · replace hF := br_T hc hF
    refine x_iconst (n := (-1)) (b := 29) dX12_found_28 (by decide) rfl ?_
    refine x_ireturn dX12_found_29 rfl ⟨Nat.le_refl _, Nat.le_refl _⟩ ?_
    cases hF
    exact ⟨rfl, rfl, hL⟩
  · replace hF := br_F hc hF
    refine x_aload_n (i := 0) (b := 10) dX12_found_9 rfl rfl rfl ?_
    refine x_iload_n (i := 1) (b := 11) dX12_found_10 rfl rfl rfl ?_
    refine x_iload (i := 4) (b := 13) dX12_found_11 rfl rfl ?_
    obtain ⟨hs, hF⟩ := ck_e hF
    refine x_iadd (b := 14) dX12_found_13 hs rfl ?_
    obtain ⟨hs, hF⟩ := ck_e hF
    refine x_iald (v := gI h 71 0 (x1 + x4)) (b := 15) ak_71 dX12_found_14 hs rfl rfl ?_
    refine x_iload_n (i := 3) (b := 16) dX12_found_15 rfl rfl rfl ?_
    refine x_icmp_ne (tgt := 22) (b := 19) dX12_found_16 (by decide) rfl (fun hc => ?_) (fun hc => ?_)
    · replace hF := br_F hc hF
      obtain ⟨hs, hF⟩ := ck_e hF
      refine x_iinc (i := 4) (b := 25) (ls2 := [some (xr 71 0), some (xi x1), some (xi x2), some (xi x3), some (xi (x4 + 1))]) dX12_found_22 rfl (Nat.le_of_ble_eq_true rfl) hs rfl rfl ?_
      refine x_goto (tgt := 3) dX12_found_25 (by decide) ?_
      exact x_dp (ls2 := [some (xr 71 0), some (xi x1), some (xi x2), some (xi x3), some (xi (x4 + 1))]) ⟨rfl, rfl, rfl, rfl, rfl, trivial⟩ (hr_3 x1 x2 x3 (x4 + 1) h hL hF)
    · replace hF := br_T hc hF
      refine x_iload (i := 4) (b := 21) dX12_found_19 rfl rfl ?_
      refine x_ireturn dX12_found_21 rfl ⟨Nat.le_refl _, Nat.le_refl _⟩ ?_
      cases hF
      exact ⟨rfl, rfl, hL⟩
set_option maxHeartbeats 4000000 in
set_option maxRecDepth 100000 in
theorem u_X12_found_r71 (E : xE) (d : Nat) (r : Int × Hp) : ∀ n : Nat, (∀ (x1 x2 x3 : Int) (h : Hp), Lay h → g_X12_found_r71 n 0 [x1, x2, x3] h = some r → X E mX12_found (d + 1) (0, 0) (0, 0) 0 [some (xr 71 0), some (xi x1), some (xi x2), some (xi x3), none] [] h (PoI r)) ∧ (∀ (x1 x2 x3 x4 : Int) (h : Hp), Lay h → g_X12_found_r71 n 1 [x1, x2, x3, x4] h = some r → X E mX12_found (d + 1) (0, 0) (0, 0) 3 [some (xr 71 0), some (xi x1), some (xi x2), some (xi x3), some (xi x4)] [] h (PoI r)) := by
  intro n
  induction n with
  | zero => exact ⟨fun _ _ _ _ _ hF => no_e (r := r) hF, fun _ _ _ _ _ _ hF => no_e (r := r) hF⟩
  | succ n ih => exact ⟨fun x1 x2 x3 h hL hF => t_X12_found_r71_0 E d (g_X12_found_r71 n) r ih.2 x1 x2 x3 h hL hF, fun x1 x2 x3 x4 h hL hF => t_X12_found_r71_1 E d (g_X12_found_r71 n) r ih.2 x1 x2 x3 x4 h hL hF⟩
theorem c_X12_found_r71 (d : Nat) (x1 x2 x3 : Int) (h : Hp) (r : Int × Hp) (hL : Lay h) (hF : f_X12_found_r71 x1 x2 x3 h = some r) : Sp mX12_found (d + 1) (0, 0) [xr 71 0, xi x1, xi x2, xi x3] h (PoI r) :=
  sp_of (by decide) rfl (Nat.le_of_ble_eq_true rfl) (ls := [some (xr 71 0), some (xi x1), some (xi x2), some (xi x3), none]) rfl (fun E _ => (u_X12_found_r71 E d r FU).1 x1 x2 x3 h hL hF)
theorem dX0_clear_0 : decode cX0_clear 0 = .ok (.aload_n 0, 1) := by decide +kernel
theorem dX0_clear_1 : decode cX0_clear 1 = .ok (.getfield 12, 3) := by decide +kernel
theorem dX0_clear_4 : decode cX0_clear 4 = .ok (.invokevirtual 76, 3) := by decide +kernel
theorem dX0_clear_7 : decode cX0_clear 7 = .ok (.aload_n 0, 1) := by decide +kernel
theorem dX0_clear_8 : decode cX0_clear 8 = .ok (.getfield 21, 3) := by decide +kernel
theorem dX0_clear_11 : decode cX0_clear 11 = .ok (.iconst 0, 1) := by decide +kernel
theorem dX0_clear_12 : decode cX0_clear 12 = .ok (.putfield 77, 3) := by decide +kernel
theorem dX0_clear_15 : decode cX0_clear 15 = .ok (.aload_n 0, 1) := by decide +kernel
theorem dX0_clear_16 : decode cX0_clear 16 = .ok (.iconst 0, 1) := by decide +kernel
theorem dX0_clear_17 : decode cX0_clear 17 = .ok (.putfield 31, 3) := by decide +kernel
theorem dX0_clear_20 : decode cX0_clear 20 = .ok (.aload_n 0, 1) := by decide +kernel
theorem dX0_clear_21 : decode cX0_clear 21 = .ok (.iconst 0, 1) := by decide +kernel
theorem dX0_clear_22 : decode cX0_clear 22 = .ok (.putfield 35, 3) := by decide +kernel
theorem dX0_clear_25 : decode cX0_clear 25 = .ok (.aload_n 0, 1) := by decide +kernel
theorem dX0_clear_26 : decode cX0_clear 26 = .ok (.iconst 0, 1) := by decide +kernel
theorem dX0_clear_27 : decode cX0_clear 27 = .ok (.putfield 42, 3) := by decide +kernel
theorem dX0_clear_30 : decode cX0_clear 30 = .ok (.aload_n 0, 1) := by decide +kernel
theorem dX0_clear_31 : decode cX0_clear 31 = .ok (.iconst 0, 1) := by decide +kernel
theorem dX0_clear_32 : decode cX0_clear 32 = .ok (.putfield 54, 3) := by decide +kernel
theorem dX0_clear_35 : decode cX0_clear 35 = .ok (.aload_n 0, 1) := by decide +kernel
theorem dX0_clear_36 : decode cX0_clear 36 = .ok (.iconst 0, 1) := by decide +kernel
theorem dX0_clear_37 : decode cX0_clear 37 = .ok (.putfield 57, 3) := by decide +kernel
theorem dX0_clear_40 : decode cX0_clear 40 = .ok (.aload_n 0, 1) := by decide +kernel
theorem dX0_clear_41 : decode cX0_clear 41 = .ok (.iconst 1, 1) := by decide +kernel
theorem dX0_clear_42 : decode cX0_clear 42 = .ok (.putfield 60, 3) := by decide +kernel
theorem dX0_clear_45 : decode cX0_clear 45 = .ok (.aload_n 0, 1) := by decide +kernel
theorem dX0_clear_46 : decode cX0_clear 46 = .ok (.bipush 100, 2) := by decide +kernel
theorem dX0_clear_48 : decode cX0_clear 48 = .ok (.putfield 63, 3) := by decide +kernel
theorem dX0_clear_51 : decode cX0_clear 51 = .ok (.aload_n 0, 1) := by decide +kernel
theorem dX0_clear_52 : decode cX0_clear 52 = .ok (.iconst 0, 1) := by decide +kernel
theorem dX0_clear_53 : decode cX0_clear 53 = .ok (.putfield 66, 3) := by decide +kernel
theorem dX0_clear_56 : decode cX0_clear 56 = .ok (.return_, 1) := by decide +kernel
noncomputable def b_X0_clear_0 (rec : Rk) (x0 : Int) (h : Hp) : Option (Int × Hp) :=
  bd (f_X9_clear x0 h) fun v1 h2 =>
  lt (sI h2 1 x0 2 0) fun h3 =>
  lt (sI h3 0 x0 3 0) fun h4 =>
  lt (sI h4 0 x0 4 0) fun h5 =>
  lt (sI h5 0 x0 6 0) fun h6 =>
  lt (sI h6 0 x0 10 0) fun h7 =>
  lt (sI h7 0 x0 11 0) fun h8 =>
  lt (sI h8 0 x0 12 1) fun h9 =>
  lt (sI h9 0 x0 13 100) fun h10 =>
  lt (sI h10 0 x0 14 0) fun h11 =>
  some (0, h11)
noncomputable def g_X0_clear (n : Nat) : Rk := Nat.rec (motive := fun _ => Rk) (fun _ _ _ => none) (fun _ rec k l h => if k = 0 then b_X0_clear_0 rec (l.getD 0 0) h else none) n
noncomputable def f_X0_clear (x0 : Int) (h : Hp) : Option (Int × Hp) := g_X0_clear FU 0 [x0] h
set_option maxHeartbeats 4000000 in
set_option maxRecDepth 100000 in
theorem t_X0_clear_0 (E : xE) (d : Nat) (rec : Rk) (r : Int × Hp) (x0 : Int) (h : Hp) (hL : Lay h) (hF : b_X0_clear_0 rec x0 h = some r) : X E mX0_clear (d + 2) (0, 0) (0, 0) 0 [some (xr 0 x0)] [] h (PoV r) := by
  unfold b_X0_clear_0 at hF
  refine x_aload_n (i := 0) (b := 1) dX0_clear_0 rfl rfl rfl ?_
  refine x_getL (j := x0) (t := (9, 0, true)) (b := 4) fk_X0_12 dX0_clear_1 rfl hL rfl rfl rfl ?_
  obtain ⟨v1, h2, hq, hF⟩ := bd_e hF
  refine x_callV (as := []) (rest := []) (b := 7) (c_X9_clear d x0 h _ hL hq) dX0_clear_4 cw_X0_76 ⟨_, _, rfl, Nat.le_of_ble_eq_true rfl⟩ rfl rfl (Nat.le_of_ble_eq_true rfl) ⟨Nat.le_refl _, Nat.le_refl _⟩ rfl (fun rv hh hp _ => ?_)
  obtain ⟨rfl, rfl, hL⟩ := hp
  refine x_aload_n (i := 0) (b := 8) dX0_clear_7 rfl rfl rfl ?_
  refine x_getL (j := x0) (t := (1, 0, true)) (b := 11) fk_X0_21 dX0_clear_8 rfl hL rfl rfl rfl ?_
  refine x_iconst (n := 0) (b := 12) dX0_clear_11 (by decide) rfl ?_
  refine x_putI (b := 15) fk_X0_77 dX0_clear_12 rfl rfl 2 rfl ?_
  obtain ⟨h3, e_h3, hF⟩ := lt_e hF
  refine x_hp (h2 := h3) e_h3 ?_
  replace hL : Lay h3 := by rw [← e_h3]; exact hL
  refine x_aload_n (i := 0) (b := 16) dX0_clear_15 rfl rfl rfl ?_
  refine x_iconst (n := 0) (b := 17) dX0_clear_16 (by decide) rfl ?_
  refine x_putI (b := 20) fk_X0_31 dX0_clear_17 rfl rfl 3 rfl ?_
  obtain ⟨h4, e_h4, hF⟩ := lt_e hF
  refine x_hp (h2 := h4) e_h4 ?_
  replace hL : Lay h4 := by rw [← e_h4]; exact hL
  refine x_aload_n (i := 0) (b := 21) dX0_clear_20 rfl rfl rfl ?_
  refine x_iconst (n := 0) (b := 22) dX0_clear_21 (by decide) rfl ?_
  refine x_putI (b := 25) fk_X0_35 dX0_clear_22 rfl rfl 4 rfl ?_
  obtain ⟨h5, e_h5, hF⟩ := lt_e hF
  refine x_hp (h2 := h5) e_h5 ?_
  replace hL : Lay h5 := by rw [← e_h5]; exact hL
  refine x_aload_n (i := 0) (b := 26) dX0_clear_25 rfl rfl rfl ?_
  refine x_iconst (n := 0) (b := 27) dX0_clear_26 (by decide) rfl ?_
  refine x_putI (b := 30) fk_X0_42 dX0_clear_27 rfl rfl 6 rfl ?_
  obtain ⟨h6, e_h6, hF⟩ := lt_e hF
  refine x_hp (h2 := h6) e_h6 ?_
  replace hL : Lay h6 := by rw [← e_h6]; exact hL
  refine x_aload_n (i := 0) (b := 31) dX0_clear_30 rfl rfl rfl ?_
  refine x_iconst (n := 0) (b := 32) dX0_clear_31 (by decide) rfl ?_
  refine x_putI (b := 35) fk_X0_54 dX0_clear_32 rfl rfl 10 rfl ?_
  obtain ⟨h7, e_h7, hF⟩ := lt_e hF
  refine x_hp (h2 := h7) e_h7 ?_
  replace hL : Lay h7 := by rw [← e_h7]; exact hL
  refine x_aload_n (i := 0) (b := 36) dX0_clear_35 rfl rfl rfl ?_
  refine x_iconst (n := 0) (b := 37) dX0_clear_36 (by decide) rfl ?_
  refine x_putI (b := 40) fk_X0_57 dX0_clear_37 rfl rfl 11 rfl ?_
  obtain ⟨h8, e_h8, hF⟩ := lt_e hF
  refine x_hp (h2 := h8) e_h8 ?_
  replace hL : Lay h8 := by rw [← e_h8]; exact hL
  refine x_aload_n (i := 0) (b := 41) dX0_clear_40 rfl rfl rfl ?_
  refine x_iconst (n := 1) (b := 42) dX0_clear_41 (by decide) rfl ?_
  refine x_putI (b := 45) fk_X0_60 dX0_clear_42 rfl rfl 12 rfl ?_
  obtain ⟨h9, e_h9, hF⟩ := lt_e hF
  refine x_hp (h2 := h9) e_h9 ?_
  replace hL : Lay h9 := by rw [← e_h9]; exact hL
  refine x_aload_n (i := 0) (b := 46) dX0_clear_45 rfl rfl rfl ?_
  refine x_bipush (n := 100) (b := 48) dX0_clear_46 (by decide) rfl ?_
  refine x_putI (b := 51) fk_X0_63 dX0_clear_48 rfl rfl 13 rfl ?_
  obtain ⟨h10, e_h10, hF⟩ := lt_e hF
  refine x_hp (h2 := h10) e_h10 ?_
  replace hL : Lay h10 := by rw [← e_h10]; exact hL
  refine x_aload_n (i := 0) (b := 52) dX0_clear_51 rfl rfl rfl ?_
  refine x_iconst (n := 0) (b := 53) dX0_clear_52 (by decide) rfl ?_
  refine x_putI (b := 56) fk_X0_66 dX0_clear_53 rfl rfl 14 rfl ?_
  obtain ⟨h11, e_h11, hF⟩ := lt_e hF
  refine x_hp (h2 := h11) e_h11 ?_
  replace hL : Lay h11 := by rw [← e_h11]; exact hL
  refine x_return dX0_clear_56 rfl ⟨Nat.le_refl _, Nat.le_refl _⟩ ?_
  cases hF
  exact ⟨rfl, rfl, hL⟩
set_option maxHeartbeats 4000000 in
set_option maxRecDepth 100000 in
theorem u_X0_clear (E : xE) (d : Nat) (r : Int × Hp) : ∀ n : Nat, (∀ (x0 : Int) (h : Hp), Lay h → g_X0_clear n 0 [x0] h = some r → X E mX0_clear (d + 2) (0, 0) (0, 0) 0 [some (xr 0 x0)] [] h (PoV r)) := by
  intro n
  induction n with
  | zero => exact fun _ _ _ hF => no_e (r := r) hF
  | succ n ih => exact fun x0 h hL hF => t_X0_clear_0 E d (g_X0_clear n) r  x0 h hL hF
theorem c_X0_clear (d : Nat) (x0 : Int) (h : Hp) (r : Int × Hp) (hL : Lay h) (hF : f_X0_clear x0 h = some r) : Sp mX0_clear (d + 2) (0, 0) [xr 0 x0] h (PoV r) :=
  sp_of (by decide) rfl (Nat.le_of_ble_eq_true rfl) (ls := [some (xr 0 x0)]) rfl (fun E _ => (u_X0_clear E d r FU) x0 h hL hF)
theorem dX0_isMouth_0 : decode cX0_isMouth 0 = .ok (.iload_n 1, 1) := by decide +kernel
theorem dX0_isMouth_1 : decode cX0_isMouth 1 = .ok (.ifCond .lt 15, 3) := by decide +kernel
theorem dX0_isMouth_4 : decode cX0_isMouth 4 = .ok (.iload_n 1, 1) := by decide +kernel
theorem dX0_isMouth_5 : decode cX0_isMouth 5 = .ok (.aload_n 0, 1) := by decide +kernel
theorem dX0_isMouth_6 : decode cX0_isMouth 6 = .ok (.invokevirtual 86, 3) := by decide +kernel
theorem dX0_isMouth_9 : decode cX0_isMouth 9 = .ok (.if_icmp .ge 7, 3) := by decide +kernel
theorem dX0_isMouth_12 : decode cX0_isMouth 12 = .ok (.iconst 1, 1) := by decide +kernel
theorem dX0_isMouth_13 : decode cX0_isMouth 13 = .ok (.goto 4, 3) := by decide +kernel
theorem dX0_isMouth_16 : decode cX0_isMouth 16 = .ok (.iconst 0, 1) := by decide +kernel
theorem dX0_isMouth_17 : decode cX0_isMouth 17 = .ok (.ireturn, 1) := by decide +kernel
noncomputable def b_X0_isMouth_0 (rec : Rk) (x0 x1 : Int) (h : Hp) : Option (Int × Hp) :=
  if x1 < 0 then (
    some (0, h)
  ) else (
    bd (f_X0_size x0 h) fun v1 h2 =>
    if v1 ≤ x1 then (
      some (0, h2)
    ) else (
      some (1, h2)
    )
  )
noncomputable def g_X0_isMouth (n : Nat) : Rk := Nat.rec (motive := fun _ => Rk) (fun _ _ _ => none) (fun _ rec k l h => if k = 0 then b_X0_isMouth_0 rec (l.getD 0 0) (l.getD 1 0) h else none) n
noncomputable def f_X0_isMouth (x0 x1 : Int) (h : Hp) : Option (Int × Hp) := g_X0_isMouth FU 0 [x0, x1] h
set_option maxHeartbeats 4000000 in
set_option maxRecDepth 100000 in
theorem t_X0_isMouth_0 (E : xE) (d : Nat) (rec : Rk) (r : Int × Hp) (x0 x1 : Int) (h : Hp) (hL : Lay h) (hF : b_X0_isMouth_0 rec x0 x1 h = some r) : X E mX0_isMouth (d + 2) (0, 0) (0, 0) 0 [some (xr 0 x0), some (xi x1)] [] h (PoI r) := by
  unfold b_X0_isMouth_0 at hF
  refine x_iload_n (i := 1) (b := 1) dX0_isMouth_0 rfl rfl rfl ?_
  refine x_if_lt (tgt := 16) (b := 4) dX0_isMouth_1 (by decide) rfl (fun hc => ?_) (fun hc => ?_)
  · replace hF := br_T hc hF
    refine x_iconst (n := 0) (b := 17) dX0_isMouth_16 (by decide) rfl ?_
    refine x_zreturn dX0_isMouth_17 rfl ⟨Nat.le_refl _, Nat.le_refl _⟩ (by decide) ?_
    cases hF
    exact ⟨rfl, rfl, hL⟩
  · replace hF := br_F hc hF
    refine x_iload_n (i := 1) (b := 5) dX0_isMouth_4 rfl rfl rfl ?_
    refine x_aload_n (i := 0) (b := 6) dX0_isMouth_5 rfl rfl rfl ?_
    obtain ⟨v1, h2, hq, hF⟩ := bd_e hF
    refine x_callV (as := []) (rest := [xi x1]) (b := 9) (c_X0_size d x0 h _ hL hq) dX0_isMouth_6 cw_X0_86 ⟨_, _, rfl, Nat.le_of_ble_eq_true rfl⟩ rfl rfl (Nat.le_of_ble_eq_true rfl) ⟨Nat.le_refl _, Nat.le_refl _⟩ rfl (fun rv hh hp _ => ?_)
    obtain ⟨rfl, rfl, hL⟩ := hp
    refine x_icmp_ge (tgt := 16) (b := 12) dX0_isMouth_9 (by decide) rfl (fun hc => ?_) (fun hc => ?_)
    · replace hF := br_T hc hF
      refine x_iconst (n := 0) (b := 17) dX0_isMouth_16 (by decide) rfl ?_
      refine x_zreturn dX0_isMouth_17 rfl ⟨Nat.le_refl _, Nat.le_refl _⟩ (by decide) ?_
      cases hF
      exact ⟨rfl, rfl, hL⟩
    · replace hF := br_F hc hF
      refine x_iconst (n := 1) (b := 13) dX0_isMouth_12 (by decide) rfl ?_
      refine x_goto (tgt := 17) dX0_isMouth_13 (by decide) ?_
      refine x_zreturn dX0_isMouth_17 rfl ⟨Nat.le_refl _, Nat.le_refl _⟩ (by decide) ?_
      cases hF
      exact ⟨rfl, rfl, hL⟩
set_option maxHeartbeats 4000000 in
set_option maxRecDepth 100000 in
theorem u_X0_isMouth (E : xE) (d : Nat) (r : Int × Hp) : ∀ n : Nat, (∀ (x0 x1 : Int) (h : Hp), Lay h → g_X0_isMouth n 0 [x0, x1] h = some r → X E mX0_isMouth (d + 2) (0, 0) (0, 0) 0 [some (xr 0 x0), some (xi x1)] [] h (PoI r)) := by
  intro n
  induction n with
  | zero => exact fun _ _ _ _ hF => no_e (r := r) hF
  | succ n ih => exact fun x0 x1 h hL hF => t_X0_isMouth_0 E d (g_X0_isMouth n) r  x0 x1 h hL hF
theorem c_X0_isMouth (d : Nat) (x0 x1 : Int) (h : Hp) (r : Int × Hp) (hL : Lay h) (hF : f_X0_isMouth x0 x1 h = some r) : Sp mX0_isMouth (d + 2) (0, 0) [xr 0 x0, xi x1] h (PoI r) :=
  sp_of (by decide) rfl (Nat.le_of_ble_eq_true rfl) (ls := [some (xr 0 x0), some (xi x1)]) rfl (fun E _ => (u_X0_isMouth E d r FU) x0 x1 h hL hF)
theorem dX0_mouthNamed_0 : decode cX0_mouthNamed 0 = .ok (.iconst 0, 1) := by decide +kernel
theorem dX0_mouthNamed_1 : decode cX0_mouthNamed 1 = .ok (.istore_n 2, 1) := by decide +kernel
theorem dX0_mouthNamed_2 : decode cX0_mouthNamed 2 = .ok (.iload_n 2, 1) := by decide +kernel
theorem dX0_mouthNamed_3 : decode cX0_mouthNamed 3 = .ok (.aload_n 0, 1) := by decide +kernel
theorem dX0_mouthNamed_4 : decode cX0_mouthNamed 4 = .ok (.invokevirtual 86, 3) := by decide +kernel
theorem dX0_mouthNamed_7 : decode cX0_mouthNamed 7 = .ok (.if_icmp .ge 24, 3) := by decide +kernel
theorem dX0_mouthNamed_10 : decode cX0_mouthNamed 10 = .ok (.aload_n 0, 1) := by decide +kernel
theorem dX0_mouthNamed_11 : decode cX0_mouthNamed 11 = .ok (.getfield 27, 3) := by decide +kernel
theorem dX0_mouthNamed_14 : decode cX0_mouthNamed 14 = .ok (.iload_n 2, 1) := by decide +kernel
theorem dX0_mouthNamed_15 : decode cX0_mouthNamed 15 = .ok (.aaload, 1) := by decide +kernel
theorem dX0_mouthNamed_16 : decode cX0_mouthNamed 16 = .ok (.getfield 89, 3) := by decide +kernel
theorem dX0_mouthNamed_19 : decode cX0_mouthNamed 19 = .ok (.iload_n 1, 1) := by decide +kernel
theorem dX0_mouthNamed_20 : decode cX0_mouthNamed 20 = .ok (.if_icmp .ne 5, 3) := by decide +kernel
theorem dX0_mouthNamed_23 : decode cX0_mouthNamed 23 = .ok (.iload_n 2, 1) := by decide +kernel
theorem dX0_mouthNamed_24 : decode cX0_mouthNamed 24 = .ok (.ireturn, 1) := by decide +kernel
theorem dX0_mouthNamed_25 : decode cX0_mouthNamed 25 = .ok (.iinc 2 1, 3) := by decide +kernel
theorem dX0_mouthNamed_28 : decode cX0_mouthNamed 28 = .ok (.goto (-26), 3) := by decide +kernel
theorem dX0_mouthNamed_31 : decode cX0_mouthNamed 31 = .ok (.iconst (-1), 1) := by decide +kernel
theorem dX0_mouthNamed_32 : decode cX0_mouthNamed 32 = .ok (.ireturn, 1) := by decide +kernel
noncomputable def b_X0_mouthNamed_0 (rec : Rk) (x0 x1 : Int) (h : Hp) : Option (Int × Hp) :=
  rec 1 [x0, x1, 0] h
noncomputable def b_X0_mouthNamed_1 (rec : Rk) (x0 x1 x2 : Int) (h : Hp) : Option (Int × Hp) :=
  bd (f_X0_size x0 h) fun v1 h2 =>
  if v1 ≤ x2 then (
    some ((-1), h2)
  ) else (
    ck (0 ≤ x2 ∧ x2 < 9) <|
    rf (gR h2 20 x0 x2) 4 fun j3 =>
    if (gI h2 4 j3 0) = x1 then (
      some (x2, h2)
    ) else (
      ck (-2147483648 ≤ x2 + 1 ∧ x2 + 1 < 2147483648) <|
      rec 1 [x0, x1, x2 + 1] h2
    )
  )
noncomputable def g_X0_mouthNamed (n : Nat) : Rk := Nat.rec (motive := fun _ => Rk) (fun _ _ _ => none) (fun _ rec k l h => if k = 0 then b_X0_mouthNamed_0 rec (l.getD 0 0) (l.getD 1 0) h else if k = 1 then b_X0_mouthNamed_1 rec (l.getD 0 0) (l.getD 1 0) (l.getD 2 0) h else none) n
noncomputable def f_X0_mouthNamed (x0 x1 : Int) (h : Hp) : Option (Int × Hp) := g_X0_mouthNamed FU 0 [x0, x1] h
set_option maxHeartbeats 4000000 in
set_option maxRecDepth 100000 in
theorem t_X0_mouthNamed_0 (E : xE) (d : Nat) (rec : Rk) (r : Int × Hp) (hr_2 : ∀ (x0 x1 x2 : Int) (h : Hp), Lay h → rec 1 [x0, x1, x2] h = some r → X E mX0_mouthNamed (d + 2) (0, 0) (0, 0) 2 [some (xr 0 x0), some (xi x1), some (xi x2)] [] h (PoI r)) (x0 x1 : Int) (h : Hp) (hL : Lay h) (hF : b_X0_mouthNamed_0 rec x0 x1 h = some r) : X E mX0_mouthNamed (d + 2) (0, 0) (0, 0) 0 [some (xr 0 x0), some (xi x1), none] [] h (PoI r) := by
  unfold b_X0_mouthNamed_0 at hF
  refine x_iconst (n := 0) (b := 1) dX0_mouthNamed_0 (by decide) rfl ?_
  refine x_istore_n (i := 2) (b := 2) (ls2 := [some (xr 0 x0), some (xi x1), some (xi 0)]) dX0_mouthNamed_1 rfl (Nat.le_of_ble_eq_true rfl) rfl rfl ?_
  exact x_dp (ls2 := [some (xr 0 x0), some (xi x1), some (xi 0)]) ⟨rfl, rfl, rfl, trivial⟩ (hr_2 x0 x1 0 h hL hF)
set_option maxHeartbeats 4000000 in
set_option maxRecDepth 100000 in
theorem t_X0_mouthNamed_1 (E : xE) (d : Nat) (rec : Rk) (r : Int × Hp) (hr_2 : ∀ (x0 x1 x2 : Int) (h : Hp), Lay h → rec 1 [x0, x1, x2] h = some r → X E mX0_mouthNamed (d + 2) (0, 0) (0, 0) 2 [some (xr 0 x0), some (xi x1), some (xi x2)] [] h (PoI r)) (x0 x1 x2 : Int) (h : Hp) (hL : Lay h) (hF : b_X0_mouthNamed_1 rec x0 x1 x2 h = some r) : X E mX0_mouthNamed (d + 2) (0, 0) (0, 0) 2 [some (xr 0 x0), some (xi x1), some (xi x2)] [] h (PoI r) := by
  unfold b_X0_mouthNamed_1 at hF
  refine x_iload_n (i := 2) (b := 3) dX0_mouthNamed_2 rfl rfl rfl ?_
  refine x_aload_n (i := 0) (b := 4) dX0_mouthNamed_3 rfl rfl rfl ?_
  obtain ⟨v1, h2, hq, hF⟩ := bd_e hF
  refine x_callV (as := []) (rest := [xi x2]) (b := 7) (c_X0_size d x0 h _ hL hq) dX0_mouthNamed_4 cw_X0_86 ⟨_, _, rfl, Nat.le_of_ble_eq_true rfl⟩ rfl rfl (Nat.le_of_ble_eq_true rfl) ⟨Nat.le_refl _, Nat.le_refl _⟩ rfl (fun rv hh hp _ => ?_)
  obtain ⟨rfl, rfl, hL⟩ := hp
  refine x_icmp_ge (tgt := 31) (b := 10) dX0_mouthNamed_7 (by decide) rfl (fun hc => ?_) (fun hc => ?_)
  · replace hF := br_T hc hF
    refine x_iconst (n := (-1)) (b := 32) dX0_mouthNamed_31 (by decide) rfl ?_
    refine x_ireturn dX0_mouthNamed_32 rfl ⟨Nat.le_refl _, Nat.le_refl _⟩ ?_
    cases hF
    exact ⟨rfl, rfl, hL⟩
  · replace hF := br_F hc hF
    refine x_aload_n (i := 0) (b := 11) dX0_mouthNamed_10 rfl rfl rfl ?_
    refine x_getL (j := x0) (t := (20, 0, true)) (b := 14) fk_X0_27 dX0_mouthNamed_11 rfl hL rfl rfl rfl ?_
    refine x_iload_n (i := 2) (b := 15) dX0_mouthNamed_14 rfl rfl rfl ?_
    obtain ⟨hs, hF⟩ := ck_e hF
    obtain ⟨j3, e_j3, hF⟩ := rf_e hF
    refine x_aaldM (v := some (4, j3)) (b := 16) ak_20 dX0_mouthNamed_15 hs e_j3 rfl ?_
    refine x_getI (v := gI h2 4 j3 0) (b := 19) fk_X0_89 dX0_mouthNamed_16 (by decide) rfl rfl ?_
    refine x_iload_n (i := 1) (b := 20) dX0_mouthNamed_19 rfl rfl rfl ?_
    refine x_icmp_ne (tgt := 25) (b := 23) dX0_mouthNamed_20 (by decide) rfl (fun hc => ?_) (fun hc => ?_)
    · replace hF := br_F hc hF
      obtain ⟨hs, hF⟩ := ck_e hF
      refine x_iinc (i := 2) (b := 28) (ls2 := [some (xr 0 x0), some (xi x1), some (xi (x2 + 1))]) dX0_mouthNamed_25 rfl (Nat.le_of_ble_eq_true rfl) hs rfl rfl ?_
      refine x_goto (tgt := 2) dX0_mouthNamed_28 (by decide) ?_
      exact x_dp (ls2 := [some (xr 0 x0), some (xi x1), some (xi (x2 + 1))]) ⟨rfl, rfl, rfl, trivial⟩ (hr_2 x0 x1 (x2 + 1) h2 hL hF)
    · replace hF := br_T hc hF
      refine x_iload_n (i := 2) (b := 24) dX0_mouthNamed_23 rfl rfl rfl ?_
      refine x_ireturn dX0_mouthNamed_24 rfl ⟨Nat.le_refl _, Nat.le_refl _⟩ ?_
      cases hF
      exact ⟨rfl, rfl, hL⟩
set_option maxHeartbeats 4000000 in
set_option maxRecDepth 100000 in
theorem u_X0_mouthNamed (E : xE) (d : Nat) (r : Int × Hp) : ∀ n : Nat, (∀ (x0 x1 : Int) (h : Hp), Lay h → g_X0_mouthNamed n 0 [x0, x1] h = some r → X E mX0_mouthNamed (d + 2) (0, 0) (0, 0) 0 [some (xr 0 x0), some (xi x1), none] [] h (PoI r)) ∧ (∀ (x0 x1 x2 : Int) (h : Hp), Lay h → g_X0_mouthNamed n 1 [x0, x1, x2] h = some r → X E mX0_mouthNamed (d + 2) (0, 0) (0, 0) 2 [some (xr 0 x0), some (xi x1), some (xi x2)] [] h (PoI r)) := by
  intro n
  induction n with
  | zero => exact ⟨fun _ _ _ _ hF => no_e (r := r) hF, fun _ _ _ _ _ hF => no_e (r := r) hF⟩
  | succ n ih => exact ⟨fun x0 x1 h hL hF => t_X0_mouthNamed_0 E d (g_X0_mouthNamed n) r ih.2 x0 x1 h hL hF, fun x0 x1 x2 h hL hF => t_X0_mouthNamed_1 E d (g_X0_mouthNamed n) r ih.2 x0 x1 x2 h hL hF⟩
theorem c_X0_mouthNamed (d : Nat) (x0 x1 : Int) (h : Hp) (r : Int × Hp) (hL : Lay h) (hF : f_X0_mouthNamed x0 x1 h = some r) : Sp mX0_mouthNamed (d + 2) (0, 0) [xr 0 x0, xi x1] h (PoI r) :=
  sp_of (by decide) rfl (Nat.le_of_ble_eq_true rfl) (ls := [some (xr 0 x0), some (xi x1), none]) rfl (fun E _ => (u_X0_mouthNamed E d r FU).1 x0 x1 h hL hF)
theorem dX11_back_0 : decode cX11_back 0 = .ok (.aload_n 0, 1) := by decide +kernel
theorem dX11_back_1 : decode cX11_back 1 = .ok (.getfield 81, 3) := by decide +kernel
theorem dX11_back_4 : decode cX11_back 4 = .ok (.ifCond .ne 5, 3) := by decide +kernel
theorem dX11_back_7 : decode cX11_back 7 = .ok (.iconst (-1), 1) := by decide +kernel
theorem dX11_back_8 : decode cX11_back 8 = .ok (.ireturn, 1) := by decide +kernel
theorem dX11_back_9 : decode cX11_back 9 = .ok (.aload_n 0, 1) := by decide +kernel
theorem dX11_back_10 : decode cX11_back 10 = .ok (.getfield 57, 3) := by decide +kernel
theorem dX11_back_13 : decode cX11_back 13 = .ok (.aload_n 0, 1) := by decide +kernel
theorem dX11_back_14 : decode cX11_back 14 = .ok (.getfield 75, 3) := by decide +kernel
theorem dX11_back_17 : decode cX11_back 17 = .ok (.invokevirtual 246, 3) := by decide +kernel
theorem dX11_back_20 : decode cX11_back 20 = .ok (.aload_n 0, 1) := by decide +kernel
theorem dX11_back_21 : decode cX11_back 21 = .ok (.getfield 64, 3) := by decide +kernel
theorem dX11_back_24 : decode cX11_back 24 = .ok (.aload_n 0, 1) := by decide +kernel
theorem dX11_back_25 : decode cX11_back 25 = .ok (.getfield 78, 3) := by decide +kernel
theorem dX11_back_28 : decode cX11_back 28 = .ok (.invokevirtual 339, 3) := by decide +kernel
theorem dX11_back_31 : decode cX11_back 31 = .ok (.aload_n 0, 1) := by decide +kernel
theorem dX11_back_32 : decode cX11_back 32 = .ok (.iconst 0, 1) := by decide +kernel
theorem dX11_back_33 : decode cX11_back 33 = .ok (.putfield 72, 3) := by decide +kernel
theorem dX11_back_36 : decode cX11_back 36 = .ok (.aload_n 0, 1) := by decide +kernel
theorem dX11_back_37 : decode cX11_back 37 = .ok (.iconst (-1), 1) := by decide +kernel
theorem dX11_back_38 : decode cX11_back 38 = .ok (.putfield 95, 3) := by decide +kernel
theorem dX11_back_41 : decode cX11_back 41 = .ok (.aload_n 0, 1) := by decide +kernel
theorem dX11_back_42 : decode cX11_back 42 = .ok (.getfield 57, 3) := by decide +kernel
theorem dX11_back_45 : decode cX11_back 45 = .ok (.getfield 195, 3) := by decide +kernel
theorem dX11_back_48 : decode cX11_back 48 = .ok (.ireturn, 1) := by decide +kernel
noncomputable def b_X11_back_0 (rec : Rk) (h : Hp) : Option (Int × Hp) :=
  if (gI h 11 0 13) = 0 then (
    some ((-1), h)
  ) else (
    bd (f_X10_copyFrom 0 21 h) fun v1 h2 =>
    bd (f_X3_copyFrom 0 1 h2) fun v3 h4 =>
    lt (sI h4 11 0 10 0) fun h5 =>
    lt (sI h5 11 0 16 (-1)) fun h6 =>
    some (gI h6 10 0 0, h6)
  )
noncomputable def g_X11_back (n : Nat) : Rk := Nat.rec (motive := fun _ => Rk) (fun _ _ _ => none) (fun _ rec k l h => if k = 0 then b_X11_back_0 rec  h else none) n
noncomputable def f_X11_back (h : Hp) : Option (Int × Hp) := g_X11_back FU 0 [] h
set_option maxHeartbeats 4000000 in
set_option maxRecDepth 100000 in
theorem t_X11_back_0 (E : xE) (d : Nat) (rec : Rk) (r : Int × Hp) (h : Hp) (hL : Lay h) (hF : b_X11_back_0 rec  h = some r) : X E mX11_back (d + 2) (0, 0) (0, 0) 0 [some (xr 11 0)] [] h (PoI r) := by
  unfold b_X11_back_0 at hF
  refine x_aload_n (i := 0) (b := 1) dX11_back_0 rfl rfl rfl ?_
  refine x_getI (v := gI h 11 0 13) (b := 4) fk_X11_81 dX11_back_1 (by decide) rfl rfl ?_
  refine x_if_ne (tgt := 9) (b := 7) dX11_back_4 (by decide) rfl (fun hc => ?_) (fun hc => ?_)
  · replace hF := br_F hc hF
    refine x_aload_n (i := 0) (b := 10) dX11_back_9 rfl rfl rfl ?_
    refine x_getL (j := 0) (t := (10, 0, false)) (b := 13) fk_X11_57 dX11_back_10 rfl hL rfl rfl rfl ?_
    refine x_aload_n (i := 0) (b := 14) dX11_back_13 rfl rfl rfl ?_
    refine x_getL (j := 21) (t := (10, 21, false)) (b := 17) fk_X11_75 dX11_back_14 rfl hL rfl rfl rfl ?_
    obtain ⟨v1, h2, hq, hF⟩ := bd_e hF
    refine x_callV (as := [xr 10 21]) (rest := []) (b := 20) (c_X10_copyFrom d 0 21 h _ hL hq) dX11_back_17 cw_X11_246 ⟨_, _, rfl, Nat.le_of_ble_eq_true rfl⟩ rfl rfl (Nat.le_of_ble_eq_true rfl) ⟨Nat.le_refl _, Nat.le_refl _⟩ rfl (fun rv hh hp _ => ?_)
    obtain ⟨rfl, rfl, hL⟩ := hp
    refine x_aload_n (i := 0) (b := 21) dX11_back_20 rfl rfl rfl ?_
    refine x_getL (j := 0) (t := (3, 0, false)) (b := 24) fk_X11_64 dX11_back_21 rfl hL rfl rfl rfl ?_
    refine x_aload_n (i := 0) (b := 25) dX11_back_24 rfl rfl rfl ?_
    refine x_getL (j := 1) (t := (3, 1, false)) (b := 28) fk_X11_78 dX11_back_25 rfl hL rfl rfl rfl ?_
    obtain ⟨v3, h4, hq, hF⟩ := bd_e hF
    refine x_callV (as := [xr 3 1]) (rest := []) (b := 31) (c_X3_copyFrom d 0 1 h2 _ hL hq) dX11_back_28 cw_X11_339 ⟨_, _, rfl, Nat.le_of_ble_eq_true rfl⟩ rfl rfl (Nat.le_of_ble_eq_true rfl) ⟨Nat.le_refl _, Nat.le_refl _⟩ rfl (fun rv hh hp _ => ?_)
    obtain ⟨rfl, rfl, hL⟩ := hp
    refine x_aload_n (i := 0) (b := 32) dX11_back_31 rfl rfl rfl ?_
    refine x_iconst (n := 0) (b := 33) dX11_back_32 (by decide) rfl ?_
    refine x_putI (b := 36) fk_X11_72 dX11_back_33 rfl rfl 10 rfl ?_
    obtain ⟨h5, e_h5, hF⟩ := lt_e hF
    refine x_hp (h2 := h5) e_h5 ?_
    replace hL : Lay h5 := by rw [← e_h5]; exact hL
    refine x_aload_n (i := 0) (b := 37) dX11_back_36 rfl rfl rfl ?_
    refine x_iconst (n := (-1)) (b := 38) dX11_back_37 (by decide) rfl ?_
    refine x_putI (b := 41) fk_X11_95 dX11_back_38 rfl rfl 16 rfl ?_
    obtain ⟨h6, e_h6, hF⟩ := lt_e hF
    refine x_hp (h2 := h6) e_h6 ?_
    replace hL : Lay h6 := by rw [← e_h6]; exact hL
    refine x_aload_n (i := 0) (b := 42) dX11_back_41 rfl rfl rfl ?_
    refine x_getL (j := 0) (t := (10, 0, false)) (b := 45) fk_X11_57 dX11_back_42 rfl hL rfl rfl rfl ?_
    refine x_getI (v := gI h6 10 0 0) (b := 48) fk_X11_195 dX11_back_45 (by decide) rfl rfl ?_
    refine x_ireturn dX11_back_48 rfl ⟨Nat.le_refl _, Nat.le_refl _⟩ ?_
    cases hF
    exact ⟨rfl, rfl, hL⟩
  · replace hF := br_T hc hF
    refine x_iconst (n := (-1)) (b := 8) dX11_back_7 (by decide) rfl ?_
    refine x_ireturn dX11_back_8 rfl ⟨Nat.le_refl _, Nat.le_refl _⟩ ?_
    cases hF
    exact ⟨rfl, rfl, hL⟩
set_option maxHeartbeats 4000000 in
set_option maxRecDepth 100000 in
theorem u_X11_back (E : xE) (d : Nat) (r : Int × Hp) : ∀ n : Nat, (∀ (h : Hp), Lay h → g_X11_back n 0 [] h = some r → X E mX11_back (d + 2) (0, 0) (0, 0) 0 [some (xr 11 0)] [] h (PoI r)) := by
  intro n
  induction n with
  | zero => exact fun _ _ hF => no_e (r := r) hF
  | succ n ih => exact fun h hL hF => t_X11_back_0 E d (g_X11_back n) r   h hL hF
theorem c_X11_back (d : Nat) (h : Hp) (r : Int × Hp) (hL : Lay h) (hF : f_X11_back  h = some r) : Sp mX11_back (d + 2) (0, 0) [xr 11 0] h (PoI r) :=
  sp_of (by decide) rfl (Nat.le_of_ble_eq_true rfl) (ls := [some (xr 11 0)]) rfl (fun E _ => (u_X11_back E d r FU)  h hL hF)
theorem dX11_feed_0 : decode cX11_feed 0 = .ok (.aload_n 0, 1) := by decide +kernel
theorem dX11_feed_1 : decode cX11_feed 1 = .ok (.getfield 13, 3) := by decide +kernel
theorem dX11_feed_4 : decode cX11_feed 4 = .ok (.ifCond .lt 16, 3) := by decide +kernel
theorem dX11_feed_7 : decode cX11_feed 7 = .ok (.aload_n 0, 1) := by decide +kernel
theorem dX11_feed_8 : decode cX11_feed 8 = .ok (.getfield 13, 3) := by decide +kernel
theorem dX11_feed_11 : decode cX11_feed 11 = .ok (.bipush 20, 2) := by decide +kernel
theorem dX11_feed_13 : decode cX11_feed 13 = .ok (.iadd, 1) := by decide +kernel
theorem dX11_feed_14 : decode cX11_feed 14 = .ok (.sipush 800, 3) := by decide +kernel
theorem dX11_feed_17 : decode cX11_feed 17 = .ok (.if_icmp .le 5, 3) := by decide +kernel
theorem dX11_feed_20 : decode cX11_feed 20 = .ok (.iconst (-1), 1) := by decide +kernel
theorem dX11_feed_21 : decode cX11_feed 21 = .ok (.ireturn, 1) := by decide +kernel
theorem dX11_feed_22 : decode cX11_feed 22 = .ok (.aload_n 0, 1) := by decide +kernel
theorem dX11_feed_23 : decode cX11_feed 23 = .ok (.iload_n 1, 1) := by decide +kernel
theorem dX11_feed_24 : decode cX11_feed 24 = .ok (.invokevirtual 101, 3) := by decide +kernel
theorem dX11_feed_27 : decode cX11_feed 27 = .ok (.aload_n 0, 1) := by decide +kernel
theorem dX11_feed_28 : decode cX11_feed 28 = .ok (.iload_n 2, 1) := by decide +kernel
theorem dX11_feed_29 : decode cX11_feed 29 = .ok (.invokevirtual 101, 3) := by decide +kernel
theorem dX11_feed_32 : decode cX11_feed 32 = .ok (.aload_n 0, 1) := by decide +kernel
theorem dX11_feed_33 : decode cX11_feed 33 = .ok (.iload_n 3, 1) := by decide +kernel
theorem dX11_feed_34 : decode cX11_feed 34 = .ok (.invokevirtual 101, 3) := by decide +kernel
theorem dX11_feed_37 : decode cX11_feed 37 = .ok (.aload_n 0, 1) := by decide +kernel
theorem dX11_feed_38 : decode cX11_feed 38 = .ok (.iload 4, 2) := by decide +kernel
theorem dX11_feed_40 : decode cX11_feed 40 = .ok (.invokevirtual 101, 3) := by decide +kernel
theorem dX11_feed_43 : decode cX11_feed 43 = .ok (.aload_n 0, 1) := by decide +kernel
theorem dX11_feed_44 : decode cX11_feed 44 = .ok (.iload 5, 2) := by decide +kernel
theorem dX11_feed_46 : decode cX11_feed 46 = .ok (.invokevirtual 101, 3) := by decide +kernel
theorem dX11_feed_49 : decode cX11_feed 49 = .ok (.aload_n 0, 1) := by decide +kernel
theorem dX11_feed_50 : decode cX11_feed 50 = .ok (.getfield 13, 3) := by decide +kernel
theorem dX11_feed_53 : decode cX11_feed 53 = .ok (.ireturn, 1) := by decide +kernel
noncomputable def b_X11_feed_0 (rec : Rk) (x1 x2 x3 x4 x5 : Int) (h : Hp) : Option (Int × Hp) :=
  if (gI h 11 0 1) < 0 then (
    some ((-1), h)
  ) else (
    ck (-2147483648 ≤ (gI h 11 0 1) + 20 ∧ (gI h 11 0 1) + 20 < 2147483648) <|
    if ((gI h 11 0 1) + 20) ≤ 800 then (
      bd (f_X11_tapeNumber x1 h) fun v1 h2 =>
      bd (f_X11_tapeNumber x2 h2) fun v3 h4 =>
      bd (f_X11_tapeNumber x3 h4) fun v5 h6 =>
      bd (f_X11_tapeNumber x4 h6) fun v7 h8 =>
      bd (f_X11_tapeNumber x5 h8) fun v9 h10 =>
      some (gI h10 11 0 1, h10)
    ) else (
      some ((-1), h)
    )
  )
noncomputable def g_X11_feed (n : Nat) : Rk := Nat.rec (motive := fun _ => Rk) (fun _ _ _ => none) (fun _ rec k l h => if k = 0 then b_X11_feed_0 rec (l.getD 0 0) (l.getD 1 0) (l.getD 2 0) (l.getD 3 0) (l.getD 4 0) h else none) n
noncomputable def f_X11_feed (x1 x2 x3 x4 x5 : Int) (h : Hp) : Option (Int × Hp) := g_X11_feed FU 0 [x1, x2, x3, x4, x5] h
set_option maxHeartbeats 4000000 in
set_option maxRecDepth 100000 in
theorem t_X11_feed_0 (E : xE) (d : Nat) (rec : Rk) (r : Int × Hp) (x1 x2 x3 x4 x5 : Int) (h : Hp) (hL : Lay h) (hF : b_X11_feed_0 rec x1 x2 x3 x4 x5 h = some r) : X E mX11_feed (d + 2) (0, 0) (0, 0) 0 [some (xr 11 0), some (xi x1), some (xi x2), some (xi x3), some (xi x4), some (xi x5)] [] h (PoI r) := by
  unfold b_X11_feed_0 at hF
  refine x_aload_n (i := 0) (b := 1) dX11_feed_0 rfl rfl rfl ?_
  refine x_getI (v := gI h 11 0 1) (b := 4) fk_X11_13 dX11_feed_1 (by decide) rfl rfl ?_
  refine x_if_lt (tgt := 20) (b := 7) dX11_feed_4 (by decide) rfl (fun hc => ?_) (fun hc => ?_)
  · replace hF := br_T hc hF
    refine x_iconst (n := (-1)) (b := 21) dX11_feed_20 (by decide) rfl ?_
    refine x_ireturn dX11_feed_21 rfl ⟨Nat.le_refl _, Nat.le_refl _⟩ ?_
    cases hF
    exact ⟨rfl, rfl, hL⟩
  · replace hF := br_F hc hF
    refine x_aload_n (i := 0) (b := 8) dX11_feed_7 rfl rfl rfl ?_
    refine x_getI (v := gI h 11 0 1) (b := 11) fk_X11_13 dX11_feed_8 (by decide) rfl rfl ?_
    refine x_bipush (n := 20) (b := 13) dX11_feed_11 (by decide) rfl ?_
    obtain ⟨hs, hF⟩ := ck_e hF
    refine x_iadd (b := 14) dX11_feed_13 hs rfl ?_
    refine x_sipush (n := 800) (b := 17) dX11_feed_14 (by decide) rfl ?_
    refine x_icmp_le (tgt := 22) (b := 20) dX11_feed_17 (by decide) rfl (fun hc => ?_) (fun hc => ?_)
    · replace hF := br_T hc hF
      refine x_aload_n (i := 0) (b := 23) dX11_feed_22 rfl rfl rfl ?_
      refine x_iload_n (i := 1) (b := 24) dX11_feed_23 rfl rfl rfl ?_
      obtain ⟨v1, h2, hq, hF⟩ := bd_e hF
      refine x_callV (as := [xi x1]) (rest := []) (b := 27) (c_X11_tapeNumber d x1 h _ hL hq) dX11_feed_24 cw_X11_101 ⟨_, _, rfl, Nat.le_of_ble_eq_true rfl⟩ rfl rfl (Nat.le_of_ble_eq_true rfl) ⟨Nat.le_refl _, Nat.le_refl _⟩ rfl (fun rv hh hp _ => ?_)
      obtain ⟨rfl, rfl, hL⟩ := hp
      refine x_aload_n (i := 0) (b := 28) dX11_feed_27 rfl rfl rfl ?_
      refine x_iload_n (i := 2) (b := 29) dX11_feed_28 rfl rfl rfl ?_
      obtain ⟨v3, h4, hq, hF⟩ := bd_e hF
      refine x_callV (as := [xi x2]) (rest := []) (b := 32) (c_X11_tapeNumber d x2 h2 _ hL hq) dX11_feed_29 cw_X11_101 ⟨_, _, rfl, Nat.le_of_ble_eq_true rfl⟩ rfl rfl (Nat.le_of_ble_eq_true rfl) ⟨Nat.le_refl _, Nat.le_refl _⟩ rfl (fun rv hh hp _ => ?_)
      obtain ⟨rfl, rfl, hL⟩ := hp
      refine x_aload_n (i := 0) (b := 33) dX11_feed_32 rfl rfl rfl ?_
      refine x_iload_n (i := 3) (b := 34) dX11_feed_33 rfl rfl rfl ?_
      obtain ⟨v5, h6, hq, hF⟩ := bd_e hF
      refine x_callV (as := [xi x3]) (rest := []) (b := 37) (c_X11_tapeNumber d x3 h4 _ hL hq) dX11_feed_34 cw_X11_101 ⟨_, _, rfl, Nat.le_of_ble_eq_true rfl⟩ rfl rfl (Nat.le_of_ble_eq_true rfl) ⟨Nat.le_refl _, Nat.le_refl _⟩ rfl (fun rv hh hp _ => ?_)
      obtain ⟨rfl, rfl, hL⟩ := hp
      refine x_aload_n (i := 0) (b := 38) dX11_feed_37 rfl rfl rfl ?_
      refine x_iload (i := 4) (b := 40) dX11_feed_38 rfl rfl ?_
      obtain ⟨v7, h8, hq, hF⟩ := bd_e hF
      refine x_callV (as := [xi x4]) (rest := []) (b := 43) (c_X11_tapeNumber d x4 h6 _ hL hq) dX11_feed_40 cw_X11_101 ⟨_, _, rfl, Nat.le_of_ble_eq_true rfl⟩ rfl rfl (Nat.le_of_ble_eq_true rfl) ⟨Nat.le_refl _, Nat.le_refl _⟩ rfl (fun rv hh hp _ => ?_)
      obtain ⟨rfl, rfl, hL⟩ := hp
      refine x_aload_n (i := 0) (b := 44) dX11_feed_43 rfl rfl rfl ?_
      refine x_iload (i := 5) (b := 46) dX11_feed_44 rfl rfl ?_
      obtain ⟨v9, h10, hq, hF⟩ := bd_e hF
      refine x_callV (as := [xi x5]) (rest := []) (b := 49) (c_X11_tapeNumber d x5 h8 _ hL hq) dX11_feed_46 cw_X11_101 ⟨_, _, rfl, Nat.le_of_ble_eq_true rfl⟩ rfl rfl (Nat.le_of_ble_eq_true rfl) ⟨Nat.le_refl _, Nat.le_refl _⟩ rfl (fun rv hh hp _ => ?_)
      obtain ⟨rfl, rfl, hL⟩ := hp
      refine x_aload_n (i := 0) (b := 50) dX11_feed_49 rfl rfl rfl ?_
      refine x_getI (v := gI h10 11 0 1) (b := 53) fk_X11_13 dX11_feed_50 (by decide) rfl rfl ?_
      refine x_ireturn dX11_feed_53 rfl ⟨Nat.le_refl _, Nat.le_refl _⟩ ?_
      cases hF
      exact ⟨rfl, rfl, hL⟩
    · replace hF := br_F hc hF
      refine x_iconst (n := (-1)) (b := 21) dX11_feed_20 (by decide) rfl ?_
      refine x_ireturn dX11_feed_21 rfl ⟨Nat.le_refl _, Nat.le_refl _⟩ ?_
      cases hF
      exact ⟨rfl, rfl, hL⟩
set_option maxHeartbeats 4000000 in
set_option maxRecDepth 100000 in
theorem u_X11_feed (E : xE) (d : Nat) (r : Int × Hp) : ∀ n : Nat, (∀ (x1 x2 x3 x4 x5 : Int) (h : Hp), Lay h → g_X11_feed n 0 [x1, x2, x3, x4, x5] h = some r → X E mX11_feed (d + 2) (0, 0) (0, 0) 0 [some (xr 11 0), some (xi x1), some (xi x2), some (xi x3), some (xi x4), some (xi x5)] [] h (PoI r)) := by
  intro n
  induction n with
  | zero => exact fun _ _ _ _ _ _ _ hF => no_e (r := r) hF
  | succ n ih => exact fun x1 x2 x3 x4 x5 h hL hF => t_X11_feed_0 E d (g_X11_feed n) r  x1 x2 x3 x4 x5 h hL hF
theorem c_X11_feed (d : Nat) (x1 x2 x3 x4 x5 : Int) (h : Hp) (r : Int × Hp) (hL : Lay h) (hF : f_X11_feed x1 x2 x3 x4 x5 h = some r) : Sp mX11_feed (d + 2) (0, 0) [xr 11 0, xi x1, xi x2, xi x3, xi x4, xi x5] h (PoI r) :=
  sp_of (by decide) rfl (Nat.le_of_ble_eq_true rfl) (ls := [some (xr 11 0), some (xi x1), some (xi x2), some (xi x3), some (xi x4), some (xi x5)]) rfl (fun E _ => (u_X11_feed E d r FU) x1 x2 x3 x4 x5 h hL hF)
theorem dX11_keep_0 : decode cX11_keep 0 = .ok (.aload_n 0, 1) := by decide +kernel
theorem dX11_keep_1 : decode cX11_keep 1 = .ok (.getfield 75, 3) := by decide +kernel
theorem dX11_keep_4 : decode cX11_keep 4 = .ok (.aload_n 0, 1) := by decide +kernel
theorem dX11_keep_5 : decode cX11_keep 5 = .ok (.getfield 57, 3) := by decide +kernel
theorem dX11_keep_8 : decode cX11_keep 8 = .ok (.invokevirtual 246, 3) := by decide +kernel
theorem dX11_keep_11 : decode cX11_keep 11 = .ok (.aload_n 0, 1) := by decide +kernel
theorem dX11_keep_12 : decode cX11_keep 12 = .ok (.getfield 78, 3) := by decide +kernel
theorem dX11_keep_15 : decode cX11_keep 15 = .ok (.aload_n 0, 1) := by decide +kernel
theorem dX11_keep_16 : decode cX11_keep 16 = .ok (.getfield 64, 3) := by decide +kernel
theorem dX11_keep_19 : decode cX11_keep 19 = .ok (.invokevirtual 339, 3) := by decide +kernel
theorem dX11_keep_22 : decode cX11_keep 22 = .ok (.aload_n 0, 1) := by decide +kernel
theorem dX11_keep_23 : decode cX11_keep 23 = .ok (.iconst 1, 1) := by decide +kernel
theorem dX11_keep_24 : decode cX11_keep 24 = .ok (.putfield 81, 3) := by decide +kernel
theorem dX11_keep_27 : decode cX11_keep 27 = .ok (.aload_n 0, 1) := by decide +kernel
theorem dX11_keep_28 : decode cX11_keep 28 = .ok (.getfield 57, 3) := by decide +kernel
theorem dX11_keep_31 : decode cX11_keep 31 = .ok (.getfield 195, 3) := by decide +kernel
theorem dX11_keep_34 : decode cX11_keep 34 = .ok (.ireturn, 1) := by decide +kernel
noncomputable def b_X11_keep_0 (rec : Rk) (h : Hp) : Option (Int × Hp) :=
  bd (f_X10_copyFrom 21 0 h) fun v1 h2 =>
  bd (f_X3_copyFrom 1 0 h2) fun v3 h4 =>
  lt (sI h4 11 0 13 1) fun h5 =>
  some (gI h5 10 0 0, h5)
noncomputable def g_X11_keep (n : Nat) : Rk := Nat.rec (motive := fun _ => Rk) (fun _ _ _ => none) (fun _ rec k l h => if k = 0 then b_X11_keep_0 rec  h else none) n
noncomputable def f_X11_keep (h : Hp) : Option (Int × Hp) := g_X11_keep FU 0 [] h
set_option maxHeartbeats 4000000 in
set_option maxRecDepth 100000 in
theorem t_X11_keep_0 (E : xE) (d : Nat) (rec : Rk) (r : Int × Hp) (h : Hp) (hL : Lay h) (hF : b_X11_keep_0 rec  h = some r) : X E mX11_keep (d + 2) (0, 0) (0, 0) 0 [some (xr 11 0)] [] h (PoI r) := by
  unfold b_X11_keep_0 at hF
  refine x_aload_n (i := 0) (b := 1) dX11_keep_0 rfl rfl rfl ?_
  refine x_getL (j := 21) (t := (10, 21, false)) (b := 4) fk_X11_75 dX11_keep_1 rfl hL rfl rfl rfl ?_
  refine x_aload_n (i := 0) (b := 5) dX11_keep_4 rfl rfl rfl ?_
  refine x_getL (j := 0) (t := (10, 0, false)) (b := 8) fk_X11_57 dX11_keep_5 rfl hL rfl rfl rfl ?_
  obtain ⟨v1, h2, hq, hF⟩ := bd_e hF
  refine x_callV (as := [xr 10 0]) (rest := []) (b := 11) (c_X10_copyFrom d 21 0 h _ hL hq) dX11_keep_8 cw_X11_246 ⟨_, _, rfl, Nat.le_of_ble_eq_true rfl⟩ rfl rfl (Nat.le_of_ble_eq_true rfl) ⟨Nat.le_refl _, Nat.le_refl _⟩ rfl (fun rv hh hp _ => ?_)
  obtain ⟨rfl, rfl, hL⟩ := hp
  refine x_aload_n (i := 0) (b := 12) dX11_keep_11 rfl rfl rfl ?_
  refine x_getL (j := 1) (t := (3, 1, false)) (b := 15) fk_X11_78 dX11_keep_12 rfl hL rfl rfl rfl ?_
  refine x_aload_n (i := 0) (b := 16) dX11_keep_15 rfl rfl rfl ?_
  refine x_getL (j := 0) (t := (3, 0, false)) (b := 19) fk_X11_64 dX11_keep_16 rfl hL rfl rfl rfl ?_
  obtain ⟨v3, h4, hq, hF⟩ := bd_e hF
  refine x_callV (as := [xr 3 0]) (rest := []) (b := 22) (c_X3_copyFrom d 1 0 h2 _ hL hq) dX11_keep_19 cw_X11_339 ⟨_, _, rfl, Nat.le_of_ble_eq_true rfl⟩ rfl rfl (Nat.le_of_ble_eq_true rfl) ⟨Nat.le_refl _, Nat.le_refl _⟩ rfl (fun rv hh hp _ => ?_)
  obtain ⟨rfl, rfl, hL⟩ := hp
  refine x_aload_n (i := 0) (b := 23) dX11_keep_22 rfl rfl rfl ?_
  refine x_iconst (n := 1) (b := 24) dX11_keep_23 (by decide) rfl ?_
  refine x_putZ (b := 27) fk_X11_81 dX11_keep_24 rfl (by decide) rfl 13 rfl ?_
  obtain ⟨h5, e_h5, hF⟩ := lt_e hF
  refine x_hp (h2 := h5) e_h5 ?_
  replace hL : Lay h5 := by rw [← e_h5]; exact hL
  refine x_aload_n (i := 0) (b := 28) dX11_keep_27 rfl rfl rfl ?_
  refine x_getL (j := 0) (t := (10, 0, false)) (b := 31) fk_X11_57 dX11_keep_28 rfl hL rfl rfl rfl ?_
  refine x_getI (v := gI h5 10 0 0) (b := 34) fk_X11_195 dX11_keep_31 (by decide) rfl rfl ?_
  refine x_ireturn dX11_keep_34 rfl ⟨Nat.le_refl _, Nat.le_refl _⟩ ?_
  cases hF
  exact ⟨rfl, rfl, hL⟩
set_option maxHeartbeats 4000000 in
set_option maxRecDepth 100000 in
theorem u_X11_keep (E : xE) (d : Nat) (r : Int × Hp) : ∀ n : Nat, (∀ (h : Hp), Lay h → g_X11_keep n 0 [] h = some r → X E mX11_keep (d + 2) (0, 0) (0, 0) 0 [some (xr 11 0)] [] h (PoI r)) := by
  intro n
  induction n with
  | zero => exact fun _ _ hF => no_e (r := r) hF
  | succ n ih => exact fun h hL hF => t_X11_keep_0 E d (g_X11_keep n) r   h hL hF
theorem c_X11_keep (d : Nat) (h : Hp) (r : Int × Hp) (hL : Lay h) (hF : f_X11_keep  h = some r) : Sp mX11_keep (d + 2) (0, 0) [xr 11 0] h (PoI r) :=
  sp_of (by decide) rfl (Nat.le_of_ble_eq_true rfl) (ls := [some (xr 11 0)]) rfl (fun E _ => (u_X11_keep E d r FU)  h hL hF)
theorem dX11_land_0 : decode cX11_land 0 = .ok (.aload_n 0, 1) := by decide +kernel
theorem dX11_land_1 : decode cX11_land 1 = .ok (.getfield 20, 3) := by decide +kernel
theorem dX11_land_4 : decode cX11_land 4 = .ok (.getfield 122, 3) := by decide +kernel
theorem dX11_land_7 : decode cX11_land 7 = .ok (.iload_n 1, 1) := by decide +kernel
theorem dX11_land_8 : decode cX11_land 8 = .ok (.invokevirtual 185, 3) := by decide +kernel
theorem dX11_land_11 : decode cX11_land 11 = .ok (.ifCond .ne 5, 3) := by decide +kernel
theorem dX11_land_14 : decode cX11_land 14 = .ok (.iconst (-1), 1) := by decide +kernel
theorem dX11_land_15 : decode cX11_land 15 = .ok (.ireturn, 1) := by decide +kernel
theorem dX11_land_16 : decode cX11_land 16 = .ok (.aload_n 0, 1) := by decide +kernel
theorem dX11_land_17 : decode cX11_land 17 = .ok (.getfield 20, 3) := by decide +kernel
theorem dX11_land_20 : decode cX11_land 20 = .ok (.getfield 122, 3) := by decide +kernel
theorem dX11_land_23 : decode cX11_land 23 = .ok (.iload_n 1, 1) := by decide +kernel
theorem dX11_land_24 : decode cX11_land 24 = .ok (.invokevirtual 192, 3) := by decide +kernel
theorem dX11_land_27 : decode cX11_land 27 = .ok (.ifCond .eq 7, 3) := by decide +kernel
theorem dX11_land_30 : decode cX11_land 30 = .ok (.iconst 1, 1) := by decide +kernel
theorem dX11_land_31 : decode cX11_land 31 = .ok (.goto 4, 3) := by decide +kernel
theorem dX11_land_34 : decode cX11_land 34 = .ok (.iconst 0, 1) := by decide +kernel
theorem dX11_land_35 : decode cX11_land 35 = .ok (.ireturn, 1) := by decide +kernel
noncomputable def b_X11_land_0 (rec : Rk) (x1 : Int) (h : Hp) : Option (Int × Hp) :=
  rf (gR h 11 0 2) 0 fun j1 =>
  bd (f_X9_isCell j1 x1 h) fun v2 h3 =>
  if v2 = 0 then (
    some ((-1), h3)
  ) else (
    rf (gR h3 11 0 2) 0 fun j4 =>
    bd (f_X9_isLand j4 x1 h3) fun v5 h6 =>
    if v5 = 0 then (
      some (0, h6)
    ) else (
      some (1, h6)
    )
  )
noncomputable def g_X11_land (n : Nat) : Rk := Nat.rec (motive := fun _ => Rk) (fun _ _ _ => none) (fun _ rec k l h => if k = 0 then b_X11_land_0 rec (l.getD 0 0) h else none) n
noncomputable def f_X11_land (x1 : Int) (h : Hp) : Option (Int × Hp) := g_X11_land FU 0 [x1] h
set_option maxHeartbeats 4000000 in
set_option maxRecDepth 100000 in
theorem t_X11_land_0 (E : xE) (d : Nat) (rec : Rk) (r : Int × Hp) (x1 : Int) (h : Hp) (hL : Lay h) (hF : b_X11_land_0 rec x1 h = some r) : X E mX11_land (d + 3) (0, 0) (0, 0) 0 [some (xr 11 0), some (xi x1)] [] h (PoI r) := by
  unfold b_X11_land_0 at hF
  refine x_aload_n (i := 0) (b := 1) dX11_land_0 rfl rfl rfl ?_
  obtain ⟨j1, e_j1, hF⟩ := rf_e hF
  refine x_getR (v := some (0, j1)) (b := 4) fk_X11_20 dX11_land_1 rfl e_j1 rfl ?_
  refine x_getL (j := j1) (t := (9, 0, true)) (b := 7) fk_X11_122 dX11_land_4 rfl hL rfl rfl rfl ?_
  refine x_iload_n (i := 1) (b := 8) dX11_land_7 rfl rfl rfl ?_
  obtain ⟨v2, h3, hq, hF⟩ := bd_e hF
  refine x_callV (as := [xi x1]) (rest := []) (b := 11) (c_X9_isCell (d + 1) j1 x1 h _ hL hq) dX11_land_8 cw_X11_185 ⟨_, _, rfl, Nat.le_of_ble_eq_true rfl⟩ rfl rfl (Nat.le_of_ble_eq_true rfl) ⟨Nat.le_refl _, Nat.le_refl _⟩ rfl (fun rv hh hp _ => ?_)
  obtain ⟨rfl, rfl, hL⟩ := hp
  refine x_if_ne (tgt := 16) (b := 14) dX11_land_11 (by decide) rfl (fun hc => ?_) (fun hc => ?_)
  · replace hF := br_F hc hF
    refine x_aload_n (i := 0) (b := 17) dX11_land_16 rfl rfl rfl ?_
    obtain ⟨j4, e_j4, hF⟩ := rf_e hF
    refine x_getR (v := some (0, j4)) (b := 20) fk_X11_20 dX11_land_17 rfl e_j4 rfl ?_
    refine x_getL (j := j4) (t := (9, 0, true)) (b := 23) fk_X11_122 dX11_land_20 rfl hL rfl rfl rfl ?_
    refine x_iload_n (i := 1) (b := 24) dX11_land_23 rfl rfl rfl ?_
    obtain ⟨v5, h6, hq, hF⟩ := bd_e hF
    refine x_callV (as := [xi x1]) (rest := []) (b := 27) (c_X9_isLand d j4 x1 h3 _ hL hq) dX11_land_24 cw_X11_192 ⟨_, _, rfl, Nat.le_of_ble_eq_true rfl⟩ rfl rfl (Nat.le_of_ble_eq_true rfl) ⟨Nat.le_refl _, Nat.le_refl _⟩ rfl (fun rv hh hp _ => ?_)
    obtain ⟨rfl, rfl, hL⟩ := hp
    refine x_if_eq (tgt := 34) (b := 30) dX11_land_27 (by decide) rfl (fun hc => ?_) (fun hc => ?_)
    · replace hF := br_T hc hF
      refine x_iconst (n := 0) (b := 35) dX11_land_34 (by decide) rfl ?_
      refine x_ireturn dX11_land_35 rfl ⟨Nat.le_refl _, Nat.le_refl _⟩ ?_
      cases hF
      exact ⟨rfl, rfl, hL⟩
    · replace hF := br_F hc hF
      refine x_iconst (n := 1) (b := 31) dX11_land_30 (by decide) rfl ?_
      refine x_goto (tgt := 35) dX11_land_31 (by decide) ?_
      refine x_ireturn dX11_land_35 rfl ⟨Nat.le_refl _, Nat.le_refl _⟩ ?_
      cases hF
      exact ⟨rfl, rfl, hL⟩
  · replace hF := br_T hc hF
    refine x_iconst (n := (-1)) (b := 15) dX11_land_14 (by decide) rfl ?_
    refine x_ireturn dX11_land_15 rfl ⟨Nat.le_refl _, Nat.le_refl _⟩ ?_
    cases hF
    exact ⟨rfl, rfl, hL⟩
set_option maxHeartbeats 4000000 in
set_option maxRecDepth 100000 in
theorem u_X11_land (E : xE) (d : Nat) (r : Int × Hp) : ∀ n : Nat, (∀ (x1 : Int) (h : Hp), Lay h → g_X11_land n 0 [x1] h = some r → X E mX11_land (d + 3) (0, 0) (0, 0) 0 [some (xr 11 0), some (xi x1)] [] h (PoI r)) := by
  intro n
  induction n with
  | zero => exact fun _ _ _ hF => no_e (r := r) hF
  | succ n ih => exact fun x1 h hL hF => t_X11_land_0 E d (g_X11_land n) r  x1 h hL hF
theorem c_X11_land (d : Nat) (x1 : Int) (h : Hp) (r : Int × Hp) (hL : Lay h) (hF : f_X11_land x1 h = some r) : Sp mX11_land (d + 3) (0, 0) [xr 11 0, xi x1] h (PoI r) :=
  sp_of (by decide) rfl (Nat.le_of_ble_eq_true rfl) (ls := [some (xr 11 0), some (xi x1)]) rfl (fun E _ => (u_X11_land E d r FU) x1 h hL hF)
theorem dX11_named_0 : decode cX11_named 0 = .ok (.iload_n 1, 1) := by decide +kernel
theorem dX11_named_1 : decode cX11_named 1 = .ok (.ifCond .ne 15, 3) := by decide +kernel
theorem dX11_named_4 : decode cX11_named 4 = .ok (.aload_n 0, 1) := by decide +kernel
theorem dX11_named_5 : decode cX11_named 5 = .ok (.getfield 20, 3) := by decide +kernel
theorem dX11_named_8 : decode cX11_named 8 = .ok (.getfield 122, 3) := by decide +kernel
theorem dX11_named_11 : decode cX11_named 11 = .ok (.iload_n 2, 1) := by decide +kernel
theorem dX11_named_12 : decode cX11_named 12 = .ok (.invokevirtual 126, 3) := by decide +kernel
theorem dX11_named_15 : decode cX11_named 15 = .ok (.ireturn, 1) := by decide +kernel
theorem dX11_named_16 : decode cX11_named 16 = .ok (.iload_n 1, 1) := by decide +kernel
theorem dX11_named_17 : decode cX11_named 17 = .ok (.iconst 1, 1) := by decide +kernel
theorem dX11_named_18 : decode cX11_named 18 = .ok (.if_icmp .ne 14, 3) := by decide +kernel
theorem dX11_named_21 : decode cX11_named 21 = .ok (.aload_n 0, 1) := by decide +kernel
theorem dX11_named_22 : decode cX11_named 22 = .ok (.getfield 20, 3) := by decide +kernel
theorem dX11_named_25 : decode cX11_named 25 = .ok (.iload_n 2, 1) := by decide +kernel
theorem dX11_named_26 : decode cX11_named 26 = .ok (.invokevirtual 132, 3) := by decide +kernel
theorem dX11_named_29 : decode cX11_named 29 = .ok (.goto 4, 3) := by decide +kernel
theorem dX11_named_32 : decode cX11_named 32 = .ok (.iconst (-1), 1) := by decide +kernel
theorem dX11_named_33 : decode cX11_named 33 = .ok (.ireturn, 1) := by decide +kernel
noncomputable def b_X11_named_0 (rec : Rk) (x1 x2 : Int) (h : Hp) : Option (Int × Hp) :=
  if x1 = 0 then (
    rf (gR h 11 0 2) 0 fun j1 =>
    bd (f_X9_isleNamed j1 x2 h) fun v2 h3 =>
    some (v2, h3)
  ) else (
    if x1 = 1 then (
      rf (gR h 11 0 2) 0 fun j4 =>
      bd (f_X0_mouthNamed j4 x2 h) fun v5 h6 =>
      some (v5, h6)
    ) else (
      some ((-1), h)
    )
  )
noncomputable def g_X11_named (n : Nat) : Rk := Nat.rec (motive := fun _ => Rk) (fun _ _ _ => none) (fun _ rec k l h => if k = 0 then b_X11_named_0 rec (l.getD 0 0) (l.getD 1 0) h else none) n
noncomputable def f_X11_named (x1 x2 : Int) (h : Hp) : Option (Int × Hp) := g_X11_named FU 0 [x1, x2] h
set_option maxHeartbeats 4000000 in
set_option maxRecDepth 100000 in
theorem t_X11_named_0 (E : xE) (d : Nat) (rec : Rk) (r : Int × Hp) (x1 x2 : Int) (h : Hp) (hL : Lay h) (hF : b_X11_named_0 rec x1 x2 h = some r) : X E mX11_named (d + 3) (0, 0) (0, 0) 0 [some (xr 11 0), some (xi x1), some (xi x2)] [] h (PoI r) := by
  unfold b_X11_named_0 at hF
  refine x_iload_n (i := 1) (b := 1) dX11_named_0 rfl rfl rfl ?_
  refine x_if_ne (tgt := 16) (b := 4) dX11_named_1 (by decide) rfl (fun hc => ?_) (fun hc => ?_)
  · replace hF := br_F hc hF
    refine x_iload_n (i := 1) (b := 17) dX11_named_16 rfl rfl rfl ?_
    refine x_iconst (n := 1) (b := 18) dX11_named_17 (by decide) rfl ?_
    refine x_icmp_ne (tgt := 32) (b := 21) dX11_named_18 (by decide) rfl (fun hc => ?_) (fun hc => ?_)
    · replace hF := br_F hc hF
      refine x_iconst (n := (-1)) (b := 33) dX11_named_32 (by decide) rfl ?_
      refine x_ireturn dX11_named_33 rfl ⟨Nat.le_refl _, Nat.le_refl _⟩ ?_
      cases hF
      exact ⟨rfl, rfl, hL⟩
    · replace hF := br_T hc hF
      refine x_aload_n (i := 0) (b := 22) dX11_named_21 rfl rfl rfl ?_
      obtain ⟨j4, e_j4, hF⟩ := rf_e hF
      refine x_getR (v := some (0, j4)) (b := 25) fk_X11_20 dX11_named_22 rfl e_j4 rfl ?_
      refine x_iload_n (i := 2) (b := 26) dX11_named_25 rfl rfl rfl ?_
      obtain ⟨v5, h6, hq, hF⟩ := bd_e hF
      refine x_callV (as := [xi x2]) (rest := []) (b := 29) (c_X0_mouthNamed d j4 x2 h _ hL hq) dX11_named_26 cw_X11_132 ⟨_, _, rfl, Nat.le_of_ble_eq_true rfl⟩ rfl rfl (Nat.le_of_ble_eq_true rfl) ⟨Nat.le_refl _, Nat.le_refl _⟩ rfl (fun rv hh hp _ => ?_)
      obtain ⟨rfl, rfl, hL⟩ := hp
      refine x_goto (tgt := 33) dX11_named_29 (by decide) ?_
      refine x_ireturn dX11_named_33 rfl ⟨Nat.le_refl _, Nat.le_refl _⟩ ?_
      cases hF
      exact ⟨rfl, rfl, hL⟩
  · replace hF := br_T hc hF
    refine x_aload_n (i := 0) (b := 5) dX11_named_4 rfl rfl rfl ?_
    obtain ⟨j1, e_j1, hF⟩ := rf_e hF
    refine x_getR (v := some (0, j1)) (b := 8) fk_X11_20 dX11_named_5 rfl e_j1 rfl ?_
    refine x_getL (j := j1) (t := (9, 0, true)) (b := 11) fk_X11_122 dX11_named_8 rfl hL rfl rfl rfl ?_
    refine x_iload_n (i := 2) (b := 12) dX11_named_11 rfl rfl rfl ?_
    obtain ⟨v2, h3, hq, hF⟩ := bd_e hF
    refine x_callV (as := [xi x2]) (rest := []) (b := 15) (c_X9_isleNamed (d + 1) j1 x2 h _ hL hq) dX11_named_12 cw_X11_126 ⟨_, _, rfl, Nat.le_of_ble_eq_true rfl⟩ rfl rfl (Nat.le_of_ble_eq_true rfl) ⟨Nat.le_refl _, Nat.le_refl _⟩ rfl (fun rv hh hp _ => ?_)
    obtain ⟨rfl, rfl, hL⟩ := hp
    refine x_ireturn dX11_named_15 rfl ⟨Nat.le_refl _, Nat.le_refl _⟩ ?_
    cases hF
    exact ⟨rfl, rfl, hL⟩
set_option maxHeartbeats 4000000 in
set_option maxRecDepth 100000 in
theorem u_X11_named (E : xE) (d : Nat) (r : Int × Hp) : ∀ n : Nat, (∀ (x1 x2 : Int) (h : Hp), Lay h → g_X11_named n 0 [x1, x2] h = some r → X E mX11_named (d + 3) (0, 0) (0, 0) 0 [some (xr 11 0), some (xi x1), some (xi x2)] [] h (PoI r)) := by
  intro n
  induction n with
  | zero => exact fun _ _ _ _ hF => no_e (r := r) hF
  | succ n ih => exact fun x1 x2 h hL hF => t_X11_named_0 E d (g_X11_named n) r  x1 x2 h hL hF
theorem c_X11_named (d : Nat) (x1 x2 : Int) (h : Hp) (r : Int × Hp) (hL : Lay h) (hF : f_X11_named x1 x2 h = some r) : Sp mX11_named (d + 3) (0, 0) [xr 11 0, xi x1, xi x2] h (PoI r) :=
  sp_of (by decide) rfl (Nat.le_of_ble_eq_true rfl) (ls := [some (xr 11 0), some (xi x1), some (xi x2)]) rfl (fun E _ => (u_X11_named E d r FU) x1 x2 h hL hF)
theorem dX11_note_0 : decode cX11_note 0 = .ok (.aload_n 0, 1) := by decide +kernel
theorem dX11_note_1 : decode cX11_note 1 = .ok (.iconst (-1), 1) := by decide +kernel
theorem dX11_note_2 : decode cX11_note 2 = .ok (.putfield 95, 3) := by decide +kernel
theorem dX11_note_5 : decode cX11_note 5 = .ok (.aload_n 0, 1) := by decide +kernel
theorem dX11_note_6 : decode cX11_note 6 = .ok (.getfield 88, 3) := by decide +kernel
theorem dX11_note_9 : decode cX11_note 9 = .ok (.iload_n 1, 1) := by decide +kernel
theorem dX11_note_10 : decode cX11_note 10 = .ok (.iload_n 2, 1) := by decide +kernel
theorem dX11_note_11 : decode cX11_note 11 = .ok (.iload_n 3, 1) := by decide +kernel
theorem dX11_note_12 : decode cX11_note 12 = .ok (.invokevirtual 308, 3) := by decide +kernel
theorem dX11_note_15 : decode cX11_note 15 = .ok (.ireturn, 1) := by decide +kernel
noncomputable def b_X11_note_0 (rec : Rk) (x1 x2 x3 : Int) (h : Hp) : Option (Int × Hp) :=
  lt (sI h 11 0 16 (-1)) fun h1 =>
  bd (f_X5_add x1 x2 x3 h1) fun v2 h3 =>
  some (v2, h3)
noncomputable def g_X11_note (n : Nat) : Rk := Nat.rec (motive := fun _ => Rk) (fun _ _ _ => none) (fun _ rec k l h => if k = 0 then b_X11_note_0 rec (l.getD 0 0) (l.getD 1 0) (l.getD 2 0) h else none) n
noncomputable def f_X11_note (x1 x2 x3 : Int) (h : Hp) : Option (Int × Hp) := g_X11_note FU 0 [x1, x2, x3] h
set_option maxHeartbeats 4000000 in
set_option maxRecDepth 100000 in
theorem t_X11_note_0 (E : xE) (d : Nat) (rec : Rk) (r : Int × Hp) (x1 x2 x3 : Int) (h : Hp) (hL : Lay h) (hF : b_X11_note_0 rec x1 x2 x3 h = some r) : X E mX11_note (d + 2) (0, 0) (0, 0) 0 [some (xr 11 0), some (xi x1), some (xi x2), some (xi x3)] [] h (PoI r) := by
  unfold b_X11_note_0 at hF
  refine x_aload_n (i := 0) (b := 1) dX11_note_0 rfl rfl rfl ?_
  refine x_iconst (n := (-1)) (b := 2) dX11_note_1 (by decide) rfl ?_
  refine x_putI (b := 5) fk_X11_95 dX11_note_2 rfl rfl 16 rfl ?_
  obtain ⟨h1, e_h1, hF⟩ := lt_e hF
  refine x_hp (h2 := h1) e_h1 ?_
  replace hL : Lay h1 := by rw [← e_h1]; exact hL
  refine x_aload_n (i := 0) (b := 6) dX11_note_5 rfl rfl rfl ?_
  refine x_getL (j := 0) (t := (5, 0, false)) (b := 9) fk_X11_88 dX11_note_6 rfl hL rfl rfl rfl ?_
  refine x_iload_n (i := 1) (b := 10) dX11_note_9 rfl rfl rfl ?_
  refine x_iload_n (i := 2) (b := 11) dX11_note_10 rfl rfl rfl ?_
  refine x_iload_n (i := 3) (b := 12) dX11_note_11 rfl rfl rfl ?_
  obtain ⟨v2, h3, hq, hF⟩ := bd_e hF
  refine x_callV (as := [xi x1, xi x2, xi x3]) (rest := []) (b := 15) (c_X5_add d x1 x2 x3 h1 _ hL hq) dX11_note_12 cw_X11_308 ⟨_, _, rfl, Nat.le_of_ble_eq_true rfl⟩ rfl rfl (Nat.le_of_ble_eq_true rfl) ⟨Nat.le_refl _, Nat.le_refl _⟩ rfl (fun rv hh hp _ => ?_)
  obtain ⟨rfl, rfl, hL⟩ := hp
  refine x_ireturn dX11_note_15 rfl ⟨Nat.le_refl _, Nat.le_refl _⟩ ?_
  cases hF
  exact ⟨rfl, rfl, hL⟩
set_option maxHeartbeats 4000000 in
set_option maxRecDepth 100000 in
theorem u_X11_note (E : xE) (d : Nat) (r : Int × Hp) : ∀ n : Nat, (∀ (x1 x2 x3 : Int) (h : Hp), Lay h → g_X11_note n 0 [x1, x2, x3] h = some r → X E mX11_note (d + 2) (0, 0) (0, 0) 0 [some (xr 11 0), some (xi x1), some (xi x2), some (xi x3)] [] h (PoI r)) := by
  intro n
  induction n with
  | zero => exact fun _ _ _ _ _ hF => no_e (r := r) hF
  | succ n ih => exact fun x1 x2 x3 h hL hF => t_X11_note_0 E d (g_X11_note n) r  x1 x2 x3 h hL hF
theorem c_X11_note (d : Nat) (x1 x2 x3 : Int) (h : Hp) (r : Int × Hp) (hL : Lay h) (hF : f_X11_note x1 x2 x3 h = some r) : Sp mX11_note (d + 2) (0, 0) [xr 11 0, xi x1, xi x2, xi x3] h (PoI r) :=
  sp_of (by decide) rfl (Nat.le_of_ble_eq_true rfl) (ls := [some (xr 11 0), some (xi x1), some (xi x2), some (xi x3)]) rfl (fun E _ => (u_X11_note E d r FU) x1 x2 x3 h hL hF)
theorem dX11_strike_0 : decode cX11_strike 0 = .ok (.iload_n 1, 1) := by decide +kernel
theorem dX11_strike_1 : decode cX11_strike 1 = .ok (.ifCond .lt 14, 3) := by decide +kernel
theorem dX11_strike_4 : decode cX11_strike 4 = .ok (.iload_n 1, 1) := by decide +kernel
theorem dX11_strike_5 : decode cX11_strike 5 = .ok (.aload_n 0, 1) := by decide +kernel
theorem dX11_strike_6 : decode cX11_strike 6 = .ok (.getfield 88, 3) := by decide +kernel
theorem dX11_strike_9 : decode cX11_strike 9 = .ok (.getfield 305, 3) := by decide +kernel
theorem dX11_strike_12 : decode cX11_strike 12 = .ok (.if_icmp .lt 5, 3) := by decide +kernel
theorem dX11_strike_15 : decode cX11_strike 15 = .ok (.iconst (-1), 1) := by decide +kernel
theorem dX11_strike_16 : decode cX11_strike 16 = .ok (.ireturn, 1) := by decide +kernel
theorem dX11_strike_17 : decode cX11_strike 17 = .ok (.aload_n 0, 1) := by decide +kernel
theorem dX11_strike_18 : decode cX11_strike 18 = .ok (.iconst 2, 1) := by decide +kernel
theorem dX11_strike_19 : decode cX11_strike 19 = .ok (.iconst (-1), 1) := by decide +kernel
theorem dX11_strike_20 : decode cX11_strike 20 = .ok (.iload_n 1, 1) := by decide +kernel
theorem dX11_strike_21 : decode cX11_strike 21 = .ok (.invokevirtual 302, 3) := by decide +kernel
theorem dX11_strike_24 : decode cX11_strike 24 = .ok (.ireturn, 1) := by decide +kernel
noncomputable def b_X11_strike_0 (rec : Rk) (x1 : Int) (h : Hp) : Option (Int × Hp) :=
  if x1 < 0 then (
    some ((-1), h)
  ) else (
    if x1 < (gI h 5 0 4) then (
      bd (f_X11_note 2 (-1) x1 h) fun v1 h2 =>
      some (v1, h2)
    ) else (
      some ((-1), h)
    )
  )
noncomputable def g_X11_strike (n : Nat) : Rk := Nat.rec (motive := fun _ => Rk) (fun _ _ _ => none) (fun _ rec k l h => if k = 0 then b_X11_strike_0 rec (l.getD 0 0) h else none) n
noncomputable def f_X11_strike (x1 : Int) (h : Hp) : Option (Int × Hp) := g_X11_strike FU 0 [x1] h
set_option maxHeartbeats 4000000 in
set_option maxRecDepth 100000 in
theorem t_X11_strike_0 (E : xE) (d : Nat) (rec : Rk) (r : Int × Hp) (x1 : Int) (h : Hp) (hL : Lay h) (hF : b_X11_strike_0 rec x1 h = some r) : X E mX11_strike (d + 3) (0, 0) (0, 0) 0 [some (xr 11 0), some (xi x1)] [] h (PoI r) := by
  unfold b_X11_strike_0 at hF
  refine x_iload_n (i := 1) (b := 1) dX11_strike_0 rfl rfl rfl ?_
  refine x_if_lt (tgt := 15) (b := 4) dX11_strike_1 (by decide) rfl (fun hc => ?_) (fun hc => ?_)
  · replace hF := br_T hc hF
    refine x_iconst (n := (-1)) (b := 16) dX11_strike_15 (by decide) rfl ?_
    refine x_ireturn dX11_strike_16 rfl ⟨Nat.le_refl _, Nat.le_refl _⟩ ?_
    cases hF
    exact ⟨rfl, rfl, hL⟩
  · replace hF := br_F hc hF
    refine x_iload_n (i := 1) (b := 5) dX11_strike_4 rfl rfl rfl ?_
    refine x_aload_n (i := 0) (b := 6) dX11_strike_5 rfl rfl rfl ?_
    refine x_getL (j := 0) (t := (5, 0, false)) (b := 9) fk_X11_88 dX11_strike_6 rfl hL rfl rfl rfl ?_
    refine x_getI (v := gI h 5 0 4) (b := 12) fk_X11_305 dX11_strike_9 (by decide) rfl rfl ?_
    refine x_icmp_lt (tgt := 17) (b := 15) dX11_strike_12 (by decide) rfl (fun hc => ?_) (fun hc => ?_)
    · replace hF := br_T hc hF
      refine x_aload_n (i := 0) (b := 18) dX11_strike_17 rfl rfl rfl ?_
      refine x_iconst (n := 2) (b := 19) dX11_strike_18 (by decide) rfl ?_
      refine x_iconst (n := (-1)) (b := 20) dX11_strike_19 (by decide) rfl ?_
      refine x_iload_n (i := 1) (b := 21) dX11_strike_20 rfl rfl rfl ?_
      obtain ⟨v1, h2, hq, hF⟩ := bd_e hF
      refine x_callV (as := [xi 2, xi (-1), xi x1]) (rest := []) (b := 24) (c_X11_note d 2 (-1) x1 h _ hL hq) dX11_strike_21 cw_X11_302 ⟨_, _, rfl, Nat.le_of_ble_eq_true rfl⟩ rfl rfl (Nat.le_of_ble_eq_true rfl) ⟨Nat.le_refl _, Nat.le_refl _⟩ rfl (fun rv hh hp _ => ?_)
      obtain ⟨rfl, rfl, hL⟩ := hp
      refine x_ireturn dX11_strike_24 rfl ⟨Nat.le_refl _, Nat.le_refl _⟩ ?_
      cases hF
      exact ⟨rfl, rfl, hL⟩
    · replace hF := br_F hc hF
      refine x_iconst (n := (-1)) (b := 16) dX11_strike_15 (by decide) rfl ?_
      refine x_ireturn dX11_strike_16 rfl ⟨Nat.le_refl _, Nat.le_refl _⟩ ?_
      cases hF
      exact ⟨rfl, rfl, hL⟩
set_option maxHeartbeats 4000000 in
set_option maxRecDepth 100000 in
theorem u_X11_strike (E : xE) (d : Nat) (r : Int × Hp) : ∀ n : Nat, (∀ (x1 : Int) (h : Hp), Lay h → g_X11_strike n 0 [x1] h = some r → X E mX11_strike (d + 3) (0, 0) (0, 0) 0 [some (xr 11 0), some (xi x1)] [] h (PoI r)) := by
  intro n
  induction n with
  | zero => exact fun _ _ _ hF => no_e (r := r) hF
  | succ n ih => exact fun x1 h hL hF => t_X11_strike_0 E d (g_X11_strike n) r  x1 h hL hF
theorem c_X11_strike (d : Nat) (x1 : Int) (h : Hp) (r : Int × Hp) (hL : Lay h) (hF : f_X11_strike x1 h = some r) : Sp mX11_strike (d + 3) (0, 0) [xr 11 0, xi x1] h (PoI r) :=
  sp_of (by decide) rfl (Nat.le_of_ble_eq_true rfl) (ls := [some (xr 11 0), some (xi x1)]) rfl (fun E _ => (u_X11_strike E d r FU) x1 h hL hF)
theorem dX11_taken_0 : decode cX11_taken 0 = .ok (.aload_n 0, 1) := by decide +kernel
theorem dX11_taken_1 : decode cX11_taken 1 = .ok (.iload_n 1, 1) := by decide +kernel
theorem dX11_taken_2 : decode cX11_taken 2 = .ok (.invokevirtual 273, 3) := by decide +kernel
theorem dX11_taken_5 : decode cX11_taken 5 = .ok (.ifCond .eq 10, 3) := by decide +kernel
theorem dX11_taken_8 : decode cX11_taken 8 = .ok (.iload_n 2, 1) := by decide +kernel
theorem dX11_taken_9 : decode cX11_taken 9 = .ok (.invokestatic 213, 3) := by decide +kernel
theorem dX11_taken_12 : decode cX11_taken 12 = .ok (.ifCond .ne 5, 3) := by decide +kernel
theorem dX11_taken_15 : decode cX11_taken 15 = .ok (.iconst (-1), 1) := by decide +kernel
theorem dX11_taken_16 : decode cX11_taken 16 = .ok (.ireturn, 1) := by decide +kernel
theorem dX11_taken_17 : decode cX11_taken 17 = .ok (.aload_n 0, 1) := by decide +kernel
theorem dX11_taken_18 : decode cX11_taken 18 = .ok (.iconst 0, 1) := by decide +kernel
theorem dX11_taken_19 : decode cX11_taken 19 = .ok (.iload_n 1, 1) := by decide +kernel
theorem dX11_taken_20 : decode cX11_taken 20 = .ok (.iload_n 2, 1) := by decide +kernel
theorem dX11_taken_21 : decode cX11_taken 21 = .ok (.invokevirtual 302, 3) := by decide +kernel
theorem dX11_taken_24 : decode cX11_taken 24 = .ok (.ireturn, 1) := by decide +kernel
noncomputable def b_X11_taken_0 (rec : Rk) (x1 x2 : Int) (h : Hp) : Option (Int × Hp) :=
  bd (f_X11_isGone x1 h) fun v1 h2 =>
  if v1 = 0 then (
    some ((-1), h2)
  ) else (
    bd (f_X11_isCourse x2 h2) fun v3 h4 =>
    if v3 = 0 then (
      some ((-1), h4)
    ) else (
      bd (f_X11_note 0 x1 x2 h4) fun v5 h6 =>
      some (v5, h6)
    )
  )
noncomputable def g_X11_taken (n : Nat) : Rk := Nat.rec (motive := fun _ => Rk) (fun _ _ _ => none) (fun _ rec k l h => if k = 0 then b_X11_taken_0 rec (l.getD 0 0) (l.getD 1 0) h else none) n
noncomputable def f_X11_taken (x1 x2 : Int) (h : Hp) : Option (Int × Hp) := g_X11_taken FU 0 [x1, x2] h
set_option maxHeartbeats 4000000 in
set_option maxRecDepth 100000 in
theorem t_X11_taken_0 (E : xE) (d : Nat) (rec : Rk) (r : Int × Hp) (x1 x2 : Int) (h : Hp) (hL : Lay h) (hF : b_X11_taken_0 rec x1 x2 h = some r) : X E mX11_taken (d + 3) (0, 0) (0, 0) 0 [some (xr 11 0), some (xi x1), some (xi x2)] [] h (PoI r) := by
  unfold b_X11_taken_0 at hF
  refine x_aload_n (i := 0) (b := 1) dX11_taken_0 rfl rfl rfl ?_
  refine x_iload_n (i := 1) (b := 2) dX11_taken_1 rfl rfl rfl ?_
  obtain ⟨v1, h2, hq, hF⟩ := bd_e hF
  refine x_callV (as := [xi x1]) (rest := []) (b := 5) (c_X11_isGone (d + 1) x1 h _ hL hq) dX11_taken_2 cw_X11_273 ⟨_, _, rfl, Nat.le_of_ble_eq_true rfl⟩ rfl rfl (Nat.le_of_ble_eq_true rfl) ⟨Nat.le_refl _, Nat.le_refl _⟩ rfl (fun rv hh hp _ => ?_)
  obtain ⟨rfl, rfl, hL⟩ := hp
  refine x_if_eq (tgt := 15) (b := 8) dX11_taken_5 (by decide) rfl (fun hc => ?_) (fun hc => ?_)
  · replace hF := br_T hc hF
    refine x_iconst (n := (-1)) (b := 16) dX11_taken_15 (by decide) rfl ?_
    refine x_ireturn dX11_taken_16 rfl ⟨Nat.le_refl _, Nat.le_refl _⟩ ?_
    cases hF
    exact ⟨rfl, rfl, hL⟩
  · replace hF := br_F hc hF
    refine x_iload_n (i := 2) (b := 9) dX11_taken_8 rfl rfl rfl ?_
    obtain ⟨v3, h4, hq, hF⟩ := bd_e hF
    refine x_callS (as := [xi x2]) (rest := []) (b := 12) (c_X11_isCourse (d + 1) x2 h2 _ hL hq) dX11_taken_9 cw_X11_213 rfl rfl (Nat.le_of_ble_eq_true rfl) ⟨Nat.le_refl _, Nat.le_refl _⟩ rfl (fun rv hh hp _ => ?_)
    obtain ⟨rfl, rfl, hL⟩ := hp
    refine x_if_ne (tgt := 17) (b := 15) dX11_taken_12 (by decide) rfl (fun hc => ?_) (fun hc => ?_)
    · replace hF := br_F hc hF
      refine x_aload_n (i := 0) (b := 18) dX11_taken_17 rfl rfl rfl ?_
      refine x_iconst (n := 0) (b := 19) dX11_taken_18 (by decide) rfl ?_
      refine x_iload_n (i := 1) (b := 20) dX11_taken_19 rfl rfl rfl ?_
      refine x_iload_n (i := 2) (b := 21) dX11_taken_20 rfl rfl rfl ?_
      obtain ⟨v5, h6, hq, hF⟩ := bd_e hF
      refine x_callV (as := [xi 0, xi x1, xi x2]) (rest := []) (b := 24) (c_X11_note d 0 x1 x2 h4 _ hL hq) dX11_taken_21 cw_X11_302 ⟨_, _, rfl, Nat.le_of_ble_eq_true rfl⟩ rfl rfl (Nat.le_of_ble_eq_true rfl) ⟨Nat.le_refl _, Nat.le_refl _⟩ rfl (fun rv hh hp _ => ?_)
      obtain ⟨rfl, rfl, hL⟩ := hp
      refine x_ireturn dX11_taken_24 rfl ⟨Nat.le_refl _, Nat.le_refl _⟩ ?_
      cases hF
      exact ⟨rfl, rfl, hL⟩
    · replace hF := br_T hc hF
      refine x_iconst (n := (-1)) (b := 16) dX11_taken_15 (by decide) rfl ?_
      refine x_ireturn dX11_taken_16 rfl ⟨Nat.le_refl _, Nat.le_refl _⟩ ?_
      cases hF
      exact ⟨rfl, rfl, hL⟩
set_option maxHeartbeats 4000000 in
set_option maxRecDepth 100000 in
theorem u_X11_taken (E : xE) (d : Nat) (r : Int × Hp) : ∀ n : Nat, (∀ (x1 x2 : Int) (h : Hp), Lay h → g_X11_taken n 0 [x1, x2] h = some r → X E mX11_taken (d + 3) (0, 0) (0, 0) 0 [some (xr 11 0), some (xi x1), some (xi x2)] [] h (PoI r)) := by
  intro n
  induction n with
  | zero => exact fun _ _ _ _ hF => no_e (r := r) hF
  | succ n ih => exact fun x1 x2 h hL hF => t_X11_taken_0 E d (g_X11_taken n) r  x1 x2 h hL hF
theorem c_X11_taken (d : Nat) (x1 x2 : Int) (h : Hp) (r : Int × Hp) (hL : Lay h) (hF : f_X11_taken x1 x2 h = some r) : Sp mX11_taken (d + 3) (0, 0) [xr 11 0, xi x1, xi x2] h (PoI r) :=
  sp_of (by decide) rfl (Nat.le_of_ble_eq_true rfl) (ls := [some (xr 11 0), some (xi x1), some (xi x2)]) rfl (fun E _ => (u_X11_taken E d r FU) x1 x2 h hL hF)
theorem dX11_washed_0 : decode cX11_washed 0 = .ok (.aload_n 0, 1) := by decide +kernel
theorem dX11_washed_1 : decode cX11_washed 1 = .ok (.iload_n 1, 1) := by decide +kernel
theorem dX11_washed_2 : decode cX11_washed 2 = .ok (.invokevirtual 273, 3) := by decide +kernel
theorem dX11_washed_5 : decode cX11_washed 5 = .ok (.ifCond .eq 13, 3) := by decide +kernel
theorem dX11_washed_8 : decode cX11_washed 8 = .ok (.iload_n 2, 1) := by decide +kernel
theorem dX11_washed_9 : decode cX11_washed 9 = .ok (.ifCond .lt 9, 3) := by decide +kernel
theorem dX11_washed_12 : decode cX11_washed 12 = .ok (.iload_n 2, 1) := by decide +kernel
theorem dX11_washed_13 : decode cX11_washed 13 = .ok (.bipush 99, 2) := by decide +kernel
theorem dX11_washed_15 : decode cX11_washed 15 = .ok (.if_icmp .le 5, 3) := by decide +kernel
theorem dX11_washed_18 : decode cX11_washed 18 = .ok (.iconst (-1), 1) := by decide +kernel
theorem dX11_washed_19 : decode cX11_washed 19 = .ok (.ireturn, 1) := by decide +kernel
theorem dX11_washed_20 : decode cX11_washed 20 = .ok (.aload_n 0, 1) := by decide +kernel
theorem dX11_washed_21 : decode cX11_washed 21 = .ok (.iconst 1, 1) := by decide +kernel
theorem dX11_washed_22 : decode cX11_washed 22 = .ok (.iload_n 1, 1) := by decide +kernel
theorem dX11_washed_23 : decode cX11_washed 23 = .ok (.iload_n 2, 1) := by decide +kernel
theorem dX11_washed_24 : decode cX11_washed 24 = .ok (.invokevirtual 302, 3) := by decide +kernel
theorem dX11_washed_27 : decode cX11_washed 27 = .ok (.ireturn, 1) := by decide +kernel
noncomputable def b_X11_washed_0 (rec : Rk) (x1 x2 : Int) (h : Hp) : Option (Int × Hp) :=
  bd (f_X11_isGone x1 h) fun v1 h2 =>
  if v1 = 0 then (
    some ((-1), h2)
  ) else (
    if x2 < 0 then (
      some ((-1), h2)
    ) else (
      if x2 ≤ 99 then (
        bd (f_X11_note 1 x1 x2 h2) fun v3 h4 =>
        some (v3, h4)
      ) else (
        some ((-1), h2)
      )
    )
  )
noncomputable def g_X11_washed (n : Nat) : Rk := Nat.rec (motive := fun _ => Rk) (fun _ _ _ => none) (fun _ rec k l h => if k = 0 then b_X11_washed_0 rec (l.getD 0 0) (l.getD 1 0) h else none) n
noncomputable def f_X11_washed (x1 x2 : Int) (h : Hp) : Option (Int × Hp) := g_X11_washed FU 0 [x1, x2] h
set_option maxHeartbeats 4000000 in
set_option maxRecDepth 100000 in
theorem t_X11_washed_0 (E : xE) (d : Nat) (rec : Rk) (r : Int × Hp) (x1 x2 : Int) (h : Hp) (hL : Lay h) (hF : b_X11_washed_0 rec x1 x2 h = some r) : X E mX11_washed (d + 3) (0, 0) (0, 0) 0 [some (xr 11 0), some (xi x1), some (xi x2)] [] h (PoI r) := by
  unfold b_X11_washed_0 at hF
  refine x_aload_n (i := 0) (b := 1) dX11_washed_0 rfl rfl rfl ?_
  refine x_iload_n (i := 1) (b := 2) dX11_washed_1 rfl rfl rfl ?_
  obtain ⟨v1, h2, hq, hF⟩ := bd_e hF
  refine x_callV (as := [xi x1]) (rest := []) (b := 5) (c_X11_isGone (d + 1) x1 h _ hL hq) dX11_washed_2 cw_X11_273 ⟨_, _, rfl, Nat.le_of_ble_eq_true rfl⟩ rfl rfl (Nat.le_of_ble_eq_true rfl) ⟨Nat.le_refl _, Nat.le_refl _⟩ rfl (fun rv hh hp _ => ?_)
  obtain ⟨rfl, rfl, hL⟩ := hp
  refine x_if_eq (tgt := 18) (b := 8) dX11_washed_5 (by decide) rfl (fun hc => ?_) (fun hc => ?_)
  · replace hF := br_T hc hF
    refine x_iconst (n := (-1)) (b := 19) dX11_washed_18 (by decide) rfl ?_
    refine x_ireturn dX11_washed_19 rfl ⟨Nat.le_refl _, Nat.le_refl _⟩ ?_
    cases hF
    exact ⟨rfl, rfl, hL⟩
  · replace hF := br_F hc hF
    refine x_iload_n (i := 2) (b := 9) dX11_washed_8 rfl rfl rfl ?_
    refine x_if_lt (tgt := 18) (b := 12) dX11_washed_9 (by decide) rfl (fun hc => ?_) (fun hc => ?_)
    · replace hF := br_T hc hF
      refine x_iconst (n := (-1)) (b := 19) dX11_washed_18 (by decide) rfl ?_
      refine x_ireturn dX11_washed_19 rfl ⟨Nat.le_refl _, Nat.le_refl _⟩ ?_
      cases hF
      exact ⟨rfl, rfl, hL⟩
    · replace hF := br_F hc hF
      refine x_iload_n (i := 2) (b := 13) dX11_washed_12 rfl rfl rfl ?_
      refine x_bipush (n := 99) (b := 15) dX11_washed_13 (by decide) rfl ?_
      refine x_icmp_le (tgt := 20) (b := 18) dX11_washed_15 (by decide) rfl (fun hc => ?_) (fun hc => ?_)
      · replace hF := br_T hc hF
        refine x_aload_n (i := 0) (b := 21) dX11_washed_20 rfl rfl rfl ?_
        refine x_iconst (n := 1) (b := 22) dX11_washed_21 (by decide) rfl ?_
        refine x_iload_n (i := 1) (b := 23) dX11_washed_22 rfl rfl rfl ?_
        refine x_iload_n (i := 2) (b := 24) dX11_washed_23 rfl rfl rfl ?_
        obtain ⟨v3, h4, hq, hF⟩ := bd_e hF
        refine x_callV (as := [xi 1, xi x1, xi x2]) (rest := []) (b := 27) (c_X11_note d 1 x1 x2 h2 _ hL hq) dX11_washed_24 cw_X11_302 ⟨_, _, rfl, Nat.le_of_ble_eq_true rfl⟩ rfl rfl (Nat.le_of_ble_eq_true rfl) ⟨Nat.le_refl _, Nat.le_refl _⟩ rfl (fun rv hh hp _ => ?_)
        obtain ⟨rfl, rfl, hL⟩ := hp
        refine x_ireturn dX11_washed_27 rfl ⟨Nat.le_refl _, Nat.le_refl _⟩ ?_
        cases hF
        exact ⟨rfl, rfl, hL⟩
      · replace hF := br_F hc hF
        refine x_iconst (n := (-1)) (b := 19) dX11_washed_18 (by decide) rfl ?_
        refine x_ireturn dX11_washed_19 rfl ⟨Nat.le_refl _, Nat.le_refl _⟩ ?_
        cases hF
        exact ⟨rfl, rfl, hL⟩
set_option maxHeartbeats 4000000 in
set_option maxRecDepth 100000 in
theorem u_X11_washed (E : xE) (d : Nat) (r : Int × Hp) : ∀ n : Nat, (∀ (x1 x2 : Int) (h : Hp), Lay h → g_X11_washed n 0 [x1, x2] h = some r → X E mX11_washed (d + 3) (0, 0) (0, 0) 0 [some (xr 11 0), some (xi x1), some (xi x2)] [] h (PoI r)) := by
  intro n
  induction n with
  | zero => exact fun _ _ _ _ hF => no_e (r := r) hF
  | succ n ih => exact fun x1 x2 h hL hF => t_X11_washed_0 E d (g_X11_washed n) r  x1 x2 h hL hF
theorem c_X11_washed (d : Nat) (x1 x2 : Int) (h : Hp) (r : Int × Hp) (hL : Lay h) (hF : f_X11_washed x1 x2 h = some r) : Sp mX11_washed (d + 3) (0, 0) [xr 11 0, xi x1, xi x2] h (PoI r) :=
  sp_of (by decide) rfl (Nat.le_of_ble_eq_true rfl) (ls := [some (xr 11 0), some (xi x1), some (xi x2)]) rfl (fun E _ => (u_X11_washed E d r FU) x1 x2 h hL hF)
theorem dX12_back_0 : decode cX12_back 0 = .ok (.aload_n 0, 1) := by decide +kernel
theorem dX12_back_1 : decode cX12_back 1 = .ok (.iconst 0, 1) := by decide +kernel
theorem dX12_back_2 : decode cX12_back 2 = .ok (.putfield 194, 3) := by decide +kernel
theorem dX12_back_5 : decode cX12_back 5 = .ok (.aload_n 0, 1) := by decide +kernel
theorem dX12_back_6 : decode cX12_back 6 = .ok (.getfield 367, 3) := by decide +kernel
theorem dX12_back_9 : decode cX12_back 9 = .ok (.ifCond .ne 5, 3) := by decide +kernel
theorem dX12_back_12 : decode cX12_back 12 = .ok (.iconst (-1), 1) := by decide +kernel
theorem dX12_back_13 : decode cX12_back 13 = .ok (.ireturn, 1) := by decide +kernel
theorem dX12_back_14 : decode cX12_back 14 = .ok (.aload_n 0, 1) := by decide +kernel
theorem dX12_back_15 : decode cX12_back 15 = .ok (.iconst 0, 1) := by decide +kernel
theorem dX12_back_16 : decode cX12_back 16 = .ok (.iconst 2, 1) := by decide +kernel
theorem dX12_back_17 : decode cX12_back 17 = .ok (.invokevirtual 468, 3) := by decide +kernel
theorem dX12_back_20 : decode cX12_back 20 = .ok (.aload_n 0, 1) := by decide +kernel
theorem dX12_back_21 : decode cX12_back 21 = .ok (.iconst 0, 1) := by decide +kernel
theorem dX12_back_22 : decode cX12_back 22 = .ok (.iconst 2, 1) := by decide +kernel
theorem dX12_back_23 : decode cX12_back 23 = .ok (.invokevirtual 514, 3) := by decide +kernel
theorem dX12_back_26 : decode cX12_back 26 = .ok (.aload_n 0, 1) := by decide +kernel
theorem dX12_back_27 : decode cX12_back 27 = .ok (.iconst 0, 1) := by decide +kernel
theorem dX12_back_28 : decode cX12_back 28 = .ok (.putfield 371, 3) := by decide +kernel
theorem dX12_back_31 : decode cX12_back 31 = .ok (.aload_n 0, 1) := by decide +kernel
theorem dX12_back_32 : decode cX12_back 32 = .ok (.getfield 87, 3) := by decide +kernel
theorem dX12_back_35 : decode cX12_back 35 = .ok (.iconst 0, 1) := by decide +kernel
theorem dX12_back_36 : decode cX12_back 36 = .ok (.iaload, 1) := by decide +kernel
theorem dX12_back_37 : decode cX12_back 37 = .ok (.ireturn, 1) := by decide +kernel
noncomputable def b_X12_back_0 (rec : Rk) (h : Hp) : Option (Int × Hp) :=
  lt (sI h 12 0 0 0) fun h1 =>
  if (gI h1 12 0 53) = 0 then (
    some ((-1), h1)
  ) else (
    bd (f_X12_copies 0 2 h1) fun v2 h3 =>
    bd (f_X12_copiesLog 0 2 h3) fun v4 h5 =>
    lt (sI h5 12 0 54 0) fun h6 =>
    ck (0 ≤ (0 : Int) ∧ (0 : Int) < 23) <|
    some (gI h6 84 0 0, h6)
  )
noncomputable def g_X12_back (n : Nat) : Rk := Nat.rec (motive := fun _ => Rk) (fun _ _ _ => none) (fun _ rec k l h => if k = 0 then b_X12_back_0 rec  h else none) n
noncomputable def f_X12_back (h : Hp) : Option (Int × Hp) := g_X12_back FU 0 [] h
set_option maxHeartbeats 4000000 in
set_option maxRecDepth 100000 in
theorem t_X12_back_0 (E : xE) (d : Nat) (rec : Rk) (r : Int × Hp) (h : Hp) (hL : Lay h) (hF : b_X12_back_0 rec  h = some r) : X E mX12_back (d + 2) (0, 0) (0, 0) 0 [some (xr 12 0)] [] h (PoI r) := by
  unfold b_X12_back_0 at hF
  refine x_aload_n (i := 0) (b := 1) dX12_back_0 rfl rfl rfl ?_
  refine x_iconst (n := 0) (b := 2) dX12_back_1 (by decide) rfl ?_
  refine x_putI (b := 5) fk_X12_194 dX12_back_2 rfl rfl 0 rfl ?_
  obtain ⟨h1, e_h1, hF⟩ := lt_e hF
  refine x_hp (h2 := h1) e_h1 ?_
  replace hL : Lay h1 := by rw [← e_h1]; exact hL
  refine x_aload_n (i := 0) (b := 6) dX12_back_5 rfl rfl rfl ?_
  refine x_getI (v := gI h1 12 0 53) (b := 9) fk_X12_367 dX12_back_6 (by decide) rfl rfl ?_
  refine x_if_ne (tgt := 14) (b := 12) dX12_back_9 (by decide) rfl (fun hc => ?_) (fun hc => ?_)
  · replace hF := br_F hc hF
    refine x_aload_n (i := 0) (b := 15) dX12_back_14 rfl rfl rfl ?_
    refine x_iconst (n := 0) (b := 16) dX12_back_15 (by decide) rfl ?_
    refine x_iconst (n := 2) (b := 17) dX12_back_16 (by decide) rfl ?_
    obtain ⟨v2, h3, hq, hF⟩ := bd_e hF
    refine x_callV (as := [xi 0, xi 2]) (rest := []) (b := 20) (c_X12_copies d 0 2 h1 _ hL hq) dX12_back_17 cw_X12_468 ⟨_, _, rfl, Nat.le_of_ble_eq_true rfl⟩ rfl rfl (Nat.le_of_ble_eq_true rfl) ⟨Nat.le_refl _, Nat.le_refl _⟩ rfl (fun rv hh hp _ => ?_)
    obtain ⟨rfl, rfl, hL⟩ := hp
    refine x_aload_n (i := 0) (b := 21) dX12_back_20 rfl rfl rfl ?_
    refine x_iconst (n := 0) (b := 22) dX12_back_21 (by decide) rfl ?_
    refine x_iconst (n := 2) (b := 23) dX12_back_22 (by decide) rfl ?_
    obtain ⟨v4, h5, hq, hF⟩ := bd_e hF
    refine x_callV (as := [xi 0, xi 2]) (rest := []) (b := 26) (c_X12_copiesLog d 0 2 h3 _ hL hq) dX12_back_23 cw_X12_514 ⟨_, _, rfl, Nat.le_of_ble_eq_true rfl⟩ rfl rfl (Nat.le_of_ble_eq_true rfl) ⟨Nat.le_refl _, Nat.le_refl _⟩ rfl (fun rv hh hp _ => ?_)
    obtain ⟨rfl, rfl, hL⟩ := hp
    refine x_aload_n (i := 0) (b := 27) dX12_back_26 rfl rfl rfl ?_
    refine x_iconst (n := 0) (b := 28) dX12_back_27 (by decide) rfl ?_
    refine x_putI (b := 31) fk_X12_371 dX12_back_28 rfl rfl 54 rfl ?_
    obtain ⟨h6, e_h6, hF⟩ := lt_e hF
    refine x_hp (h2 := h6) e_h6 ?_
    replace hL : Lay h6 := by rw [← e_h6]; exact hL
    refine x_aload_n (i := 0) (b := 32) dX12_back_31 rfl rfl rfl ?_
    refine x_getL (j := 0) (t := (84, 0, true)) (b := 35) fk_X12_87 dX12_back_32 rfl hL rfl rfl rfl ?_
    refine x_iconst (n := 0) (b := 36) dX12_back_35 (by decide) rfl ?_
    obtain ⟨hs, hF⟩ := ck_e hF
    refine x_iald (v := gI h6 84 0 0) (b := 37) ak_84 dX12_back_36 hs rfl rfl ?_
    refine x_ireturn dX12_back_37 rfl ⟨Nat.le_refl _, Nat.le_refl _⟩ ?_
    cases hF
    exact ⟨rfl, rfl, hL⟩
  · replace hF := br_T hc hF
    refine x_iconst (n := (-1)) (b := 13) dX12_back_12 (by decide) rfl ?_
    refine x_ireturn dX12_back_13 rfl ⟨Nat.le_refl _, Nat.le_refl _⟩ ?_
    cases hF
    exact ⟨rfl, rfl, hL⟩
set_option maxHeartbeats 4000000 in
set_option maxRecDepth 100000 in
theorem u_X12_back (E : xE) (d : Nat) (r : Int × Hp) : ∀ n : Nat, (∀ (h : Hp), Lay h → g_X12_back n 0 [] h = some r → X E mX12_back (d + 2) (0, 0) (0, 0) 0 [some (xr 12 0)] [] h (PoI r)) := by
  intro n
  induction n with
  | zero => exact fun _ _ hF => no_e (r := r) hF
  | succ n ih => exact fun h hL hF => t_X12_back_0 E d (g_X12_back n) r   h hL hF
theorem c_X12_back (d : Nat) (h : Hp) (r : Int × Hp) (hL : Lay h) (hF : f_X12_back  h = some r) : Sp mX12_back (d + 2) (0, 0) [xr 12 0] h (PoI r) :=
  sp_of (by decide) rfl (Nat.le_of_ble_eq_true rfl) (ls := [some (xr 12 0)]) rfl (fun E _ => (u_X12_back E d r FU)  h hL hF)
theorem dX12_far_0 : decode cX12_far 0 = .ok (.aload_n 0, 1) := by decide +kernel
theorem dX12_far_1 : decode cX12_far 1 = .ok (.iconst 0, 1) := by decide +kernel
theorem dX12_far_2 : decode cX12_far 2 = .ok (.putfield 194, 3) := by decide +kernel
theorem dX12_far_5 : decode cX12_far 5 = .ok (.aload_n 0, 1) := by decide +kernel
theorem dX12_far_6 : decode cX12_far 6 = .ok (.iload_n 1, 1) := by decide +kernel
theorem dX12_far_7 : decode cX12_far 7 = .ok (.invokevirtual 380, 3) := by decide +kernel
theorem dX12_far_10 : decode cX12_far 10 = .ok (.ifCond .eq 25, 3) := by decide +kernel
theorem dX12_far_13 : decode cX12_far 13 = .ok (.aload_n 0, 1) := by decide +kernel
theorem dX12_far_14 : decode cX12_far 14 = .ok (.iload_n 2, 1) := by decide +kernel
theorem dX12_far_15 : decode cX12_far 15 = .ok (.invokevirtual 380, 3) := by decide +kernel
theorem dX12_far_18 : decode cX12_far 18 = .ok (.ifCond .eq 17, 3) := by decide +kernel
theorem dX12_far_21 : decode cX12_far 21 = .ok (.aload_n 0, 1) := by decide +kernel
theorem dX12_far_22 : decode cX12_far 22 = .ok (.getfield 84, 3) := by decide +kernel
theorem dX12_far_25 : decode cX12_far 25 = .ok (.bipush 64, 2) := by decide +kernel
theorem dX12_far_27 : decode cX12_far 27 = .ok (.iload_n 1, 1) := by decide +kernel
theorem dX12_far_28 : decode cX12_far 28 = .ok (.imul, 1) := by decide +kernel
theorem dX12_far_29 : decode cX12_far 29 = .ok (.iload_n 2, 1) := by decide +kernel
theorem dX12_far_30 : decode cX12_far 30 = .ok (.iadd, 1) := by decide +kernel
theorem dX12_far_31 : decode cX12_far 31 = .ok (.iaload, 1) := by decide +kernel
theorem dX12_far_32 : decode cX12_far 32 = .ok (.goto 4, 3) := by decide +kernel
theorem dX12_far_35 : decode cX12_far 35 = .ok (.iconst (-1), 1) := by decide +kernel
theorem dX12_far_36 : decode cX12_far 36 = .ok (.ireturn, 1) := by decide +kernel
noncomputable def b_X12_far_0 (rec : Rk) (x1 x2 : Int) (h : Hp) : Option (Int × Hp) :=
  lt (sI h 12 0 0 0) fun h1 =>
  bd (f_X12_isCell x1 h1) fun v2 h3 =>
  if v2 = 0 then (
    some ((-1), h3)
  ) else (
    bd (f_X12_isCell x2 h3) fun v4 h5 =>
    if v4 = 0 then (
      some ((-1), h5)
    ) else (
      ck (-2147483648 ≤ 64 * x1 ∧ 64 * x1 < 2147483648) <|
      ck (-2147483648 ≤ (64 * x1) + x2 ∧ (64 * x1) + x2 < 2147483648) <|
      ck (0 ≤ ((64 * x1) + x2) ∧ ((64 * x1) + x2) < 4096) <|
      some (gI h5 83 0 ((64 * x1) + x2), h5)
    )
  )
noncomputable def g_X12_far (n : Nat) : Rk := Nat.rec (motive := fun _ => Rk) (fun _ _ _ => none) (fun _ rec k l h => if k = 0 then b_X12_far_0 rec (l.getD 0 0) (l.getD 1 0) h else none) n
noncomputable def f_X12_far (x1 x2 : Int) (h : Hp) : Option (Int × Hp) := g_X12_far FU 0 [x1, x2] h
set_option maxHeartbeats 4000000 in
set_option maxRecDepth 100000 in
theorem t_X12_far_0 (E : xE) (d : Nat) (rec : Rk) (r : Int × Hp) (x1 x2 : Int) (h : Hp) (hL : Lay h) (hF : b_X12_far_0 rec x1 x2 h = some r) : X E mX12_far (d + 3) (0, 0) (0, 0) 0 [some (xr 12 0), some (xi x1), some (xi x2)] [] h (PoI r) := by
  unfold b_X12_far_0 at hF
  refine x_aload_n (i := 0) (b := 1) dX12_far_0 rfl rfl rfl ?_
  refine x_iconst (n := 0) (b := 2) dX12_far_1 (by decide) rfl ?_
  refine x_putI (b := 5) fk_X12_194 dX12_far_2 rfl rfl 0 rfl ?_
  obtain ⟨h1, e_h1, hF⟩ := lt_e hF
  refine x_hp (h2 := h1) e_h1 ?_
  replace hL : Lay h1 := by rw [← e_h1]; exact hL
  refine x_aload_n (i := 0) (b := 6) dX12_far_5 rfl rfl rfl ?_
  refine x_iload_n (i := 1) (b := 7) dX12_far_6 rfl rfl rfl ?_
  obtain ⟨v2, h3, hq, hF⟩ := bd_e hF
  refine x_callV (as := [xi x1]) (rest := []) (b := 10) (c_X12_isCell d x1 h1 _ hL hq) dX12_far_7 cw_X12_380 ⟨_, _, rfl, Nat.le_of_ble_eq_true rfl⟩ rfl rfl (Nat.le_of_ble_eq_true rfl) ⟨Nat.le_refl _, Nat.le_refl _⟩ rfl (fun rv hh hp _ => ?_)
  obtain ⟨rfl, rfl, hL⟩ := hp
  refine x_if_eq (tgt := 35) (b := 13) dX12_far_10 (by decide) rfl (fun hc => ?_) (fun hc => ?_)
  · replace hF := br_T hc hF
    refine x_iconst (n := (-1)) (b := 36) dX12_far_35 (by decide) rfl ?_
    refine x_ireturn dX12_far_36 rfl ⟨Nat.le_refl _, Nat.le_refl _⟩ ?_
    cases hF
    exact ⟨rfl, rfl, hL⟩
  · replace hF := br_F hc hF
    refine x_aload_n (i := 0) (b := 14) dX12_far_13 rfl rfl rfl ?_
    refine x_iload_n (i := 2) (b := 15) dX12_far_14 rfl rfl rfl ?_
    obtain ⟨v4, h5, hq, hF⟩ := bd_e hF
    refine x_callV (as := [xi x2]) (rest := []) (b := 18) (c_X12_isCell d x2 h3 _ hL hq) dX12_far_15 cw_X12_380 ⟨_, _, rfl, Nat.le_of_ble_eq_true rfl⟩ rfl rfl (Nat.le_of_ble_eq_true rfl) ⟨Nat.le_refl _, Nat.le_refl _⟩ rfl (fun rv hh hp _ => ?_)
    obtain ⟨rfl, rfl, hL⟩ := hp
    refine x_if_eq (tgt := 35) (b := 21) dX12_far_18 (by decide) rfl (fun hc => ?_) (fun hc => ?_)
    · replace hF := br_T hc hF
      refine x_iconst (n := (-1)) (b := 36) dX12_far_35 (by decide) rfl ?_
      refine x_ireturn dX12_far_36 rfl ⟨Nat.le_refl _, Nat.le_refl _⟩ ?_
      cases hF
      exact ⟨rfl, rfl, hL⟩
    · replace hF := br_F hc hF
      refine x_aload_n (i := 0) (b := 22) dX12_far_21 rfl rfl rfl ?_
      refine x_getL (j := 0) (t := (83, 0, true)) (b := 25) fk_X12_84 dX12_far_22 rfl hL rfl rfl rfl ?_
      refine x_bipush (n := 64) (b := 27) dX12_far_25 (by decide) rfl ?_
      refine x_iload_n (i := 1) (b := 28) dX12_far_27 rfl rfl rfl ?_
      obtain ⟨hs, hF⟩ := ck_e hF
      refine x_imul (b := 29) dX12_far_28 hs rfl ?_
      refine x_iload_n (i := 2) (b := 30) dX12_far_29 rfl rfl rfl ?_
      obtain ⟨hs, hF⟩ := ck_e hF
      refine x_iadd (b := 31) dX12_far_30 hs rfl ?_
      obtain ⟨hs, hF⟩ := ck_e hF
      refine x_iald (v := gI h5 83 0 ((64 * x1) + x2)) (b := 32) ak_83 dX12_far_31 hs rfl rfl ?_
      refine x_goto (tgt := 36) dX12_far_32 (by decide) ?_
      refine x_ireturn dX12_far_36 rfl ⟨Nat.le_refl _, Nat.le_refl _⟩ ?_
      cases hF
      exact ⟨rfl, rfl, hL⟩
set_option maxHeartbeats 4000000 in
set_option maxRecDepth 100000 in
theorem u_X12_far (E : xE) (d : Nat) (r : Int × Hp) : ∀ n : Nat, (∀ (x1 x2 : Int) (h : Hp), Lay h → g_X12_far n 0 [x1, x2] h = some r → X E mX12_far (d + 3) (0, 0) (0, 0) 0 [some (xr 12 0), some (xi x1), some (xi x2)] [] h (PoI r)) := by
  intro n
  induction n with
  | zero => exact fun _ _ _ _ hF => no_e (r := r) hF
  | succ n ih => exact fun x1 x2 h hL hF => t_X12_far_0 E d (g_X12_far n) r  x1 x2 h hL hF
theorem c_X12_far (d : Nat) (x1 x2 : Int) (h : Hp) (r : Int × Hp) (hL : Lay h) (hF : f_X12_far x1 x2 h = some r) : Sp mX12_far (d + 3) (0, 0) [xr 12 0, xi x1, xi x2] h (PoI r) :=
  sp_of (by decide) rfl (Nat.le_of_ble_eq_true rfl) (ls := [some (xr 12 0), some (xi x1), some (xi x2)]) rfl (fun E _ => (u_X12_far E d r FU) x1 x2 h hL hF)
theorem dX12_firstWrong_0 : decode cX12_firstWrong 0 = .ok (.iconst 0, 1) := by decide +kernel
theorem dX12_firstWrong_1 : decode cX12_firstWrong 1 = .ok (.istore_n 2, 1) := by decide +kernel
theorem dX12_firstWrong_2 : decode cX12_firstWrong 2 = .ok (.iload_n 2, 1) := by decide +kernel
theorem dX12_firstWrong_3 : decode cX12_firstWrong 3 = .ok (.aload_n 0, 1) := by decide +kernel
theorem dX12_firstWrong_4 : decode cX12_firstWrong 4 = .ok (.invokevirtual 499, 3) := by decide +kernel
theorem dX12_firstWrong_7 : decode cX12_firstWrong 7 = .ok (.if_icmp .ge 105, 3) := by decide +kernel
theorem dX12_firstWrong_10 : decode cX12_firstWrong 10 = .ok (.aload_n 0, 1) := by decide +kernel
theorem dX12_firstWrong_11 : decode cX12_firstWrong 11 = .ok (.getfield 184, 3) := by decide +kernel
theorem dX12_firstWrong_14 : decode cX12_firstWrong 14 = .ok (.iload_n 2, 1) := by decide +kernel
theorem dX12_firstWrong_15 : decode cX12_firstWrong 15 = .ok (.baload, 1) := by decide +kernel
theorem dX12_firstWrong_16 : decode cX12_firstWrong 16 = .ok (.ifCond .ne 90, 3) := by decide +kernel
theorem dX12_firstWrong_19 : decode cX12_firstWrong 19 = .ok (.aload_n 0, 1) := by decide +kernel
theorem dX12_firstWrong_20 : decode cX12_firstWrong 20 = .ok (.getfield 178, 3) := by decide +kernel
theorem dX12_firstWrong_23 : decode cX12_firstWrong 23 = .ok (.iload_n 2, 1) := by decide +kernel
theorem dX12_firstWrong_24 : decode cX12_firstWrong 24 = .ok (.iaload, 1) := by decide +kernel
theorem dX12_firstWrong_25 : decode cX12_firstWrong 25 = .ok (.iconst 2, 1) := by decide +kernel
theorem dX12_firstWrong_26 : decode cX12_firstWrong 26 = .ok (.if_icmp .ne 6, 3) := by decide +kernel
theorem dX12_firstWrong_29 : decode cX12_firstWrong 29 = .ok (.goto 77, 3) := by decide +kernel
theorem dX12_firstWrong_32 : decode cX12_firstWrong 32 = .ok (.bipush 60, 2) := by decide +kernel
theorem dX12_firstWrong_34 : decode cX12_firstWrong 34 = .ok (.iload_n 1, 1) := by decide +kernel
theorem dX12_firstWrong_35 : decode cX12_firstWrong 35 = .ok (.imul, 1) := by decide +kernel
theorem dX12_firstWrong_36 : decode cX12_firstWrong 36 = .ok (.aload_n 0, 1) := by decide +kernel
theorem dX12_firstWrong_37 : decode cX12_firstWrong 37 = .ok (.getfield 175, 3) := by decide +kernel
theorem dX12_firstWrong_40 : decode cX12_firstWrong 40 = .ok (.iload_n 2, 1) := by decide +kernel
theorem dX12_firstWrong_41 : decode cX12_firstWrong 41 = .ok (.iaload, 1) := by decide +kernel
theorem dX12_firstWrong_42 : decode cX12_firstWrong 42 = .ok (.iadd, 1) := by decide +kernel
theorem dX12_firstWrong_43 : decode cX12_firstWrong 43 = .ok (.istore_n 3, 1) := by decide +kernel
theorem dX12_firstWrong_44 : decode cX12_firstWrong 44 = .ok (.aload_n 0, 1) := by decide +kernel
theorem dX12_firstWrong_45 : decode cX12_firstWrong 45 = .ok (.getfield 175, 3) := by decide +kernel
theorem dX12_firstWrong_48 : decode cX12_firstWrong 48 = .ok (.iload_n 2, 1) := by decide +kernel
theorem dX12_firstWrong_49 : decode cX12_firstWrong 49 = .ok (.iaload, 1) := by decide +kernel
theorem dX12_firstWrong_50 : decode cX12_firstWrong 50 = .ok (.aload_n 0, 1) := by decide +kernel
theorem dX12_firstWrong_51 : decode cX12_firstWrong 51 = .ok (.getfield 87, 3) := by decide +kernel
theorem dX12_firstWrong_54 : decode cX12_firstWrong 54 = .ok (.iload_n 1, 1) := by decide +kernel
theorem dX12_firstWrong_55 : decode cX12_firstWrong 55 = .ok (.iaload, 1) := by decide +kernel
theorem dX12_firstWrong_56 : decode cX12_firstWrong 56 = .ok (.if_icmp .ge 40, 3) := by decide +kernel
theorem dX12_firstWrong_59 : decode cX12_firstWrong 59 = .ok (.aload_n 0, 1) := by decide +kernel
theorem dX12_firstWrong_60 : decode cX12_firstWrong 60 = .ok (.getfield 178, 3) := by decide +kernel
theorem dX12_firstWrong_63 : decode cX12_firstWrong 63 = .ok (.iload_n 2, 1) := by decide +kernel
theorem dX12_firstWrong_64 : decode cX12_firstWrong 64 = .ok (.iaload, 1) := by decide +kernel
theorem dX12_firstWrong_65 : decode cX12_firstWrong 65 = .ok (.ifCond .ne 12, 3) := by decide +kernel
theorem dX12_firstWrong_68 : decode cX12_firstWrong 68 = .ok (.aload_n 0, 1) := by decide +kernel
theorem dX12_firstWrong_69 : decode cX12_firstWrong 69 = .ok (.getfield 114, 3) := by decide +kernel
theorem dX12_firstWrong_72 : decode cX12_firstWrong 72 = .ok (.iload_n 3, 1) := by decide +kernel
theorem dX12_firstWrong_73 : decode cX12_firstWrong 73 = .ok (.iaload, 1) := by decide +kernel
theorem dX12_firstWrong_74 : decode cX12_firstWrong 74 = .ok (.goto 9, 3) := by decide +kernel
theorem dX12_firstWrong_77 : decode cX12_firstWrong 77 = .ok (.aload_n 0, 1) := by decide +kernel
theorem dX12_firstWrong_78 : decode cX12_firstWrong 78 = .ok (.getfield 117, 3) := by decide +kernel
theorem dX12_firstWrong_81 : decode cX12_firstWrong 81 = .ok (.iload_n 3, 1) := by decide +kernel
theorem dX12_firstWrong_82 : decode cX12_firstWrong 82 = .ok (.iaload, 1) := by decide +kernel
theorem dX12_firstWrong_83 : decode cX12_firstWrong 83 = .ok (.aload_n 0, 1) := by decide +kernel
theorem dX12_firstWrong_84 : decode cX12_firstWrong 84 = .ok (.getfield 181, 3) := by decide +kernel
theorem dX12_firstWrong_87 : decode cX12_firstWrong 87 = .ok (.iload_n 2, 1) := by decide +kernel
theorem dX12_firstWrong_88 : decode cX12_firstWrong 88 = .ok (.iaload, 1) := by decide +kernel
theorem dX12_firstWrong_89 : decode cX12_firstWrong 89 = .ok (.if_icmp .ne 7, 3) := by decide +kernel
theorem dX12_firstWrong_92 : decode cX12_firstWrong 92 = .ok (.iconst 1, 1) := by decide +kernel
theorem dX12_firstWrong_93 : decode cX12_firstWrong 93 = .ok (.goto 4, 3) := by decide +kernel
theorem dX12_firstWrong_96 : decode cX12_firstWrong 96 = .ok (.iconst 0, 1) := by decide +kernel
theorem dX12_firstWrong_97 : decode cX12_firstWrong 97 = .ok (.istore 4, 2) := by decide +kernel
theorem dX12_firstWrong_99 : decode cX12_firstWrong 99 = .ok (.iload 4, 2) := by decide +kernel
theorem dX12_firstWrong_101 : decode cX12_firstWrong 101 = .ok (.ifCond .ne 5, 3) := by decide +kernel
theorem dX12_firstWrong_104 : decode cX12_firstWrong 104 = .ok (.iload_n 2, 1) := by decide +kernel
theorem dX12_firstWrong_105 : decode cX12_firstWrong 105 = .ok (.ireturn, 1) := by decide +kernel
theorem dX12_firstWrong_106 : decode cX12_firstWrong 106 = .ok (.iinc 2 1, 3) := by decide +kernel
theorem dX12_firstWrong_109 : decode cX12_firstWrong 109 = .ok (.goto (-107), 3) := by decide +kernel
theorem dX12_firstWrong_112 : decode cX12_firstWrong 112 = .ok (.iconst (-1), 1) := by decide +kernel
theorem dX12_firstWrong_113 : decode cX12_firstWrong 113 = .ok (.ireturn, 1) := by decide +kernel
noncomputable def b_X12_firstWrong_0 (rec : Rk) (x1 : Int) (h : Hp) : Option (Int × Hp) :=
  rec 1 [x1, 0] h
noncomputable def b_X12_firstWrong_1 (rec : Rk) (x1 x2 : Int) (h : Hp) : Option (Int × Hp) :=
  bd (f_X12_knownMany h) fun v1 h2 =>
  if v1 ≤ x2 then (
    some ((-1), h2)
  ) else (
    ck (0 ≤ x2 ∧ x2 < 32) <|
    if (gI h2 113 0 x2) = 0 then (
      ck (0 ≤ x2 ∧ x2 < 32) <|
      if (gI h2 111 0 x2) = 2 then (
        rec 5 [x1, x2] h2
      ) else (
        ck (-2147483648 ≤ 60 * x1 ∧ 60 * x1 < 2147483648) <|
        ck (0 ≤ x2 ∧ x2 < 32) <|
        ck (-2147483648 ≤ (60 * x1) + (gI h2 110 0 x2) ∧ (60 * x1) + (gI h2 110 0 x2) < 2147483648) <|
        lt ((60 * x1) + (gI h2 110 0 x2)) fun z3 =>
        ck (0 ≤ x2 ∧ x2 < 32) <|
        ck (0 ≤ x1 ∧ x1 < 23) <|
        if (gI h2 84 0 x1) ≤ (gI h2 110 0 x2) then (
          rec 3 [x1, x2] h2
        ) else (
          ck (0 ≤ x2 ∧ x2 < 32) <|
          if (gI h2 111 0 x2) = 0 then (
            ck (0 ≤ z3 ∧ z3 < 180) <|
            rec 2 [x1, x2, gI h2 93 0 z3] h2
          ) else (
            ck (0 ≤ z3 ∧ z3 < 180) <|
            rec 2 [x1, x2, gI h2 94 0 z3] h2
          )
        )
      )
    ) else (
      rec 5 [x1, x2] h2
    )
  )
noncomputable def b_X12_firstWrong_2 (rec : Rk) (x1 x2 y0 : Int) (h : Hp) : Option (Int × Hp) :=
  ck (0 ≤ x2 ∧ x2 < 32) <|
  if y0 = (gI h 112 0 x2) then (
    rec 4 [x1, x2, 1] h
  ) else (
    rec 3 [x1, x2] h
  )
noncomputable def b_X12_firstWrong_3 (rec : Rk) (x1 x2 : Int) (h : Hp) : Option (Int × Hp) :=
  rec 4 [x1, x2, 0] h
noncomputable def b_X12_firstWrong_4 (rec : Rk) (x1 x2 y0 : Int) (h : Hp) : Option (Int × Hp) :=
  if y0 = 0 then (
    some (x2, h)
  ) else (
    rec 5 [x1, x2] h
  )
noncomputable def b_X12_firstWrong_5 (rec : Rk) (x1 x2 : Int) (h : Hp) : Option (Int × Hp) :=
  ck (-2147483648 ≤ x2 + 1 ∧ x2 + 1 < 2147483648) <|
  rec 1 [x1, x2 + 1] h
noncomputable def g_X12_firstWrong (n : Nat) : Rk := Nat.rec (motive := fun _ => Rk) (fun _ _ _ => none) (fun _ rec k l h => if k = 0 then b_X12_firstWrong_0 rec (l.getD 0 0) h else if k = 1 then b_X12_firstWrong_1 rec (l.getD 0 0) (l.getD 1 0) h else if k = 2 then b_X12_firstWrong_2 rec (l.getD 0 0) (l.getD 1 0) (l.getD 2 0) h else if k = 3 then b_X12_firstWrong_3 rec (l.getD 0 0) (l.getD 1 0) h else if k = 4 then b_X12_firstWrong_4 rec (l.getD 0 0) (l.getD 1 0) (l.getD 2 0) h else if k = 5 then b_X12_firstWrong_5 rec (l.getD 0 0) (l.getD 1 0) h else none) n
noncomputable def f_X12_firstWrong (x1 : Int) (h : Hp) : Option (Int × Hp) := g_X12_firstWrong FU 0 [x1] h
set_option maxHeartbeats 4000000 in
set_option maxRecDepth 100000 in
theorem t_X12_firstWrong_0 (E : xE) (d : Nat) (rec : Rk) (r : Int × Hp) (hr_2 : ∀ (x1 x2 : Int) (h : Hp), Lay h → rec 1 [x1, x2] h = some r → X E mX12_firstWrong (d + 2) (0, 0) (0, 0) 2 [some (xr 12 0), some (xi x1), some (xi x2), none, none] [] h (PoI r)) (x1 : Int) (h : Hp) (hL : Lay h) (hF : b_X12_firstWrong_0 rec x1 h = some r) : X E mX12_firstWrong (d + 2) (0, 0) (0, 0) 0 [some (xr 12 0), some (xi x1), none, none, none] [] h (PoI r) := by
  unfold b_X12_firstWrong_0 at hF
  refine x_iconst (n := 0) (b := 1) dX12_firstWrong_0 (by decide) rfl ?_
  refine x_istore_n (i := 2) (b := 2) (ls2 := [some (xr 12 0), some (xi x1), some (xi 0), none, none]) dX12_firstWrong_1 rfl (Nat.le_of_ble_eq_true rfl) rfl rfl ?_
  exact x_dp (ls2 := [some (xr 12 0), some (xi x1), some (xi 0), none, none]) ⟨rfl, rfl, rfl, trivial⟩ (hr_2 x1 0 h hL hF)
set_option maxHeartbeats 4000000 in
set_option maxRecDepth 100000 in
theorem t_X12_firstWrong_1 (E : xE) (d : Nat) (rec : Rk) (r : Int × Hp) (hr_83 : ∀ (x1 x2 y0 : Int) (h : Hp), Lay h → rec 2 [x1, x2, y0] h = some r → X E mX12_firstWrong (d + 2) (0, 0) (0, 0) 83 [some (xr 12 0), some (xi x1), some (xi x2), none, none] [xi y0] h (PoI r)) (hr_96 : ∀ (x1 x2 : Int) (h : Hp), Lay h → rec 3 [x1, x2] h = some r → X E mX12_firstWrong (d + 2) (0, 0) (0, 0) 96 [some (xr 12 0), some (xi x1), some (xi x2), none, none] [] h (PoI r)) (hr_106 : ∀ (x1 x2 : Int) (h : Hp), Lay h → rec 5 [x1, x2] h = some r → X E mX12_firstWrong (d + 2) (0, 0) (0, 0) 106 [some (xr 12 0), some (xi x1), some (xi x2), none, none] [] h (PoI r)) (x1 x2 : Int) (h : Hp) (hL : Lay h) (hF : b_X12_firstWrong_1 rec x1 x2 h = some r) : X E mX12_firstWrong (d + 2) (0, 0) (0, 0) 2 [some (xr 12 0), some (xi x1), some (xi x2), none, none] [] h (PoI r) := by
  unfold b_X12_firstWrong_1 at hF
  refine x_iload_n (i := 2) (b := 3) dX12_firstWrong_2 rfl rfl rfl ?_
  refine x_aload_n (i := 0) (b := 4) dX12_firstWrong_3 rfl rfl rfl ?_
  obtain ⟨v1, h2, hq, hF⟩ := bd_e hF
  refine x_callV (as := []) (rest := [xi x2]) (b := 7) (c_X12_knownMany d h _ hL hq) dX12_firstWrong_4 cw_X12_499 ⟨_, _, rfl, Nat.le_of_ble_eq_true rfl⟩ rfl rfl (Nat.le_of_ble_eq_true rfl) ⟨Nat.le_refl _, Nat.le_refl _⟩ rfl (fun rv hh hp _ => ?_)
  obtain ⟨rfl, rfl, hL⟩ := hp
  refine x_icmp_ge (tgt := 112) (b := 10) dX12_firstWrong_7 (by decide) rfl (fun hc => ?_) (fun hc => ?_)
  · replace hF := br_T hc hF
    refine x_iconst (n := (-1)) (b := 113) dX12_firstWrong_112 (by decide) rfl ?_
    refine x_ireturn dX12_firstWrong_113 rfl ⟨Nat.le_refl _, Nat.le_refl _⟩ ?_
    cases hF
    exact ⟨rfl, rfl, hL⟩
  · replace hF := br_F hc hF
    refine x_aload_n (i := 0) (b := 11) dX12_firstWrong_10 rfl rfl rfl ?_
    refine x_getL (j := 0) (t := (113, 0, true)) (b := 14) fk_X12_184 dX12_firstWrong_11 rfl hL rfl rfl rfl ?_
    refine x_iload_n (i := 2) (b := 15) dX12_firstWrong_14 rfl rfl rfl ?_
    obtain ⟨hs, hF⟩ := ck_e hF
    refine x_zald (v := gI h2 113 0 x2) (b := 16) ak_113 dX12_firstWrong_15 hs rfl rfl ?_
    refine x_if_ne (tgt := 106) (b := 19) dX12_firstWrong_16 (by decide) rfl (fun hc => ?_) (fun hc => ?_)
    · replace hF := br_F hc hF
      exact x_dp (ls2 := [some (xr 12 0), some (xi x1), some (xi x2), none, none]) ⟨rfl, rfl, rfl, trivial⟩ (hr_106 x1 x2 h2 hL hF)
    · replace hF := br_T hc hF
      refine x_aload_n (i := 0) (b := 20) dX12_firstWrong_19 rfl rfl rfl ?_
      refine x_getL (j := 0) (t := (111, 0, true)) (b := 23) fk_X12_178 dX12_firstWrong_20 rfl hL rfl rfl rfl ?_
      refine x_iload_n (i := 2) (b := 24) dX12_firstWrong_23 rfl rfl rfl ?_
      obtain ⟨hs, hF⟩ := ck_e hF
      refine x_iald (v := gI h2 111 0 x2) (b := 25) ak_111 dX12_firstWrong_24 hs rfl rfl ?_
      refine x_iconst (n := 2) (b := 26) dX12_firstWrong_25 (by decide) rfl ?_
      refine x_icmp_ne (tgt := 32) (b := 29) dX12_firstWrong_26 (by decide) rfl (fun hc => ?_) (fun hc => ?_)
      · replace hF := br_F hc hF
        refine x_bipush (n := 60) (b := 34) dX12_firstWrong_32 (by decide) rfl ?_
        refine x_iload_n (i := 1) (b := 35) dX12_firstWrong_34 rfl rfl rfl ?_
        obtain ⟨hs, hF⟩ := ck_e hF
        refine x_imul (b := 36) dX12_firstWrong_35 hs rfl ?_
        refine x_aload_n (i := 0) (b := 37) dX12_firstWrong_36 rfl rfl rfl ?_
        refine x_getL (j := 0) (t := (110, 0, true)) (b := 40) fk_X12_175 dX12_firstWrong_37 rfl hL rfl rfl rfl ?_
        refine x_iload_n (i := 2) (b := 41) dX12_firstWrong_40 rfl rfl rfl ?_
        obtain ⟨hs, hF⟩ := ck_e hF
        refine x_iald (v := gI h2 110 0 x2) (b := 42) ak_110 dX12_firstWrong_41 hs rfl rfl ?_
        obtain ⟨hs, hF⟩ := ck_e hF
        refine x_iadd (b := 43) dX12_firstWrong_42 hs rfl ?_
        obtain ⟨z3, e_z3, hF⟩ := lt_e hF
        refine x_eq (y := z3) e_z3 ?_
        refine x_istore_n (i := 3) (b := 44) (ls2 := [some (xr 12 0), some (xi x1), some (xi x2), some (xi z3), none]) dX12_firstWrong_43 rfl (Nat.le_of_ble_eq_true rfl) rfl rfl ?_
        refine x_aload_n (i := 0) (b := 45) dX12_firstWrong_44 rfl rfl rfl ?_
        refine x_getL (j := 0) (t := (110, 0, true)) (b := 48) fk_X12_175 dX12_firstWrong_45 rfl hL rfl rfl rfl ?_
        refine x_iload_n (i := 2) (b := 49) dX12_firstWrong_48 rfl rfl rfl ?_
        obtain ⟨hs, hF⟩ := ck_e hF
        refine x_iald (v := gI h2 110 0 x2) (b := 50) ak_110 dX12_firstWrong_49 hs rfl rfl ?_
        refine x_aload_n (i := 0) (b := 51) dX12_firstWrong_50 rfl rfl rfl ?_
        refine x_getL (j := 0) (t := (84, 0, true)) (b := 54) fk_X12_87 dX12_firstWrong_51 rfl hL rfl rfl rfl ?_
        refine x_iload_n (i := 1) (b := 55) dX12_firstWrong_54 rfl rfl rfl ?_
        obtain ⟨hs, hF⟩ := ck_e hF
        refine x_iald (v := gI h2 84 0 x1) (b := 56) ak_84 dX12_firstWrong_55 hs rfl rfl ?_
        refine x_icmp_ge (tgt := 96) (b := 59) dX12_firstWrong_56 (by decide) rfl (fun hc => ?_) (fun hc => ?_)
        · replace hF := br_T hc hF
          exact x_dp (ls2 := [some (xr 12 0), some (xi x1), some (xi x2), none, none]) ⟨rfl, rfl, rfl, trivial⟩ (hr_96 x1 x2 h2 hL hF)
        · replace hF := br_F hc hF
          refine x_aload_n (i := 0) (b := 60) dX12_firstWrong_59 rfl rfl rfl ?_
          refine x_getL (j := 0) (t := (111, 0, true)) (b := 63) fk_X12_178 dX12_firstWrong_60 rfl hL rfl rfl rfl ?_
          refine x_iload_n (i := 2) (b := 64) dX12_firstWrong_63 rfl rfl rfl ?_
          obtain ⟨hs, hF⟩ := ck_e hF
          refine x_iald (v := gI h2 111 0 x2) (b := 65) ak_111 dX12_firstWrong_64 hs rfl rfl ?_
          refine x_if_ne (tgt := 77) (b := 68) dX12_firstWrong_65 (by decide) rfl (fun hc => ?_) (fun hc => ?_)
          · replace hF := br_F hc hF
            refine x_aload_n (i := 0) (b := 78) dX12_firstWrong_77 rfl rfl rfl ?_
            refine x_getL (j := 0) (t := (94, 0, true)) (b := 81) fk_X12_117 dX12_firstWrong_78 rfl hL rfl rfl rfl ?_
            refine x_iload_n (i := 3) (b := 82) dX12_firstWrong_81 rfl rfl rfl ?_
            obtain ⟨hs, hF⟩ := ck_e hF
            refine x_iald (v := gI h2 94 0 z3) (b := 83) ak_94 dX12_firstWrong_82 hs rfl rfl ?_
            exact x_dp (ls2 := [some (xr 12 0), some (xi x1), some (xi x2), none, none]) ⟨rfl, rfl, rfl, trivial⟩ (hr_83 x1 x2 (gI h2 94 0 z3) h2 hL hF)
          · replace hF := br_T hc hF
            refine x_aload_n (i := 0) (b := 69) dX12_firstWrong_68 rfl rfl rfl ?_
            refine x_getL (j := 0) (t := (93, 0, true)) (b := 72) fk_X12_114 dX12_firstWrong_69 rfl hL rfl rfl rfl ?_
            refine x_iload_n (i := 3) (b := 73) dX12_firstWrong_72 rfl rfl rfl ?_
            obtain ⟨hs, hF⟩ := ck_e hF
            refine x_iald (v := gI h2 93 0 z3) (b := 74) ak_93 dX12_firstWrong_73 hs rfl rfl ?_
            refine x_goto (tgt := 83) dX12_firstWrong_74 (by decide) ?_
            exact x_dp (ls2 := [some (xr 12 0), some (xi x1), some (xi x2), none, none]) ⟨rfl, rfl, rfl, trivial⟩ (hr_83 x1 x2 (gI h2 93 0 z3) h2 hL hF)
      · replace hF := br_T hc hF
        refine x_goto (tgt := 106) dX12_firstWrong_29 (by decide) ?_
        exact x_dp (ls2 := [some (xr 12 0), some (xi x1), some (xi x2), none, none]) ⟨rfl, rfl, rfl, trivial⟩ (hr_106 x1 x2 h2 hL hF)
set_option maxHeartbeats 4000000 in
set_option maxRecDepth 100000 in
theorem t_X12_firstWrong_2 (E : xE) (d : Nat) (rec : Rk) (r : Int × Hp) (hr_96 : ∀ (x1 x2 : Int) (h : Hp), Lay h → rec 3 [x1, x2] h = some r → X E mX12_firstWrong (d + 2) (0, 0) (0, 0) 96 [some (xr 12 0), some (xi x1), some (xi x2), none, none] [] h (PoI r)) (hr_97 : ∀ (x1 x2 y0 : Int) (h : Hp), Lay h → rec 4 [x1, x2, y0] h = some r → X E mX12_firstWrong (d + 2) (0, 0) (0, 0) 97 [some (xr 12 0), some (xi x1), some (xi x2), none, none] [xi y0] h (PoI r)) (x1 x2 y0 : Int) (h : Hp) (hL : Lay h) (hF : b_X12_firstWrong_2 rec x1 x2 y0 h = some r) : X E mX12_firstWrong (d + 2) (0, 0) (0, 0) 83 [some (xr 12 0), some (xi x1), some (xi x2), none, none] [xi y0] h (PoI r) := by
  unfold b_X12_firstWrong_2 at hF
  refine x_aload_n (i := 0) (b := 84) dX12_firstWrong_83 rfl rfl rfl ?_
  refine x_getL (j := 0) (t := (112, 0, true)) (b := 87) fk_X12_181 dX12_firstWrong_84 rfl hL rfl rfl rfl ?_
  refine x_iload_n (i := 2) (b := 88) dX12_firstWrong_87 rfl rfl rfl ?_
  obtain ⟨hs, hF⟩ := ck_e hF
  refine x_iald (v := gI h 112 0 x2) (b := 89) ak_112 dX12_firstWrong_88 hs rfl rfl ?_
  refine x_icmp_ne (tgt := 96) (b := 92) dX12_firstWrong_89 (by decide) rfl (fun hc => ?_) (fun hc => ?_)
  · replace hF := br_F hc hF
    exact x_dp (ls2 := [some (xr 12 0), some (xi x1), some (xi x2), none, none]) ⟨rfl, rfl, rfl, trivial⟩ (hr_96 x1 x2 h hL hF)
  · replace hF := br_T hc hF
    refine x_iconst (n := 1) (b := 93) dX12_firstWrong_92 (by decide) rfl ?_
    refine x_goto (tgt := 97) dX12_firstWrong_93 (by decide) ?_
    exact x_dp (ls2 := [some (xr 12 0), some (xi x1), some (xi x2), none, none]) ⟨rfl, rfl, rfl, trivial⟩ (hr_97 x1 x2 1 h hL hF)
set_option maxHeartbeats 4000000 in
set_option maxRecDepth 100000 in
theorem t_X12_firstWrong_3 (E : xE) (d : Nat) (rec : Rk) (r : Int × Hp) (hr_97 : ∀ (x1 x2 y0 : Int) (h : Hp), Lay h → rec 4 [x1, x2, y0] h = some r → X E mX12_firstWrong (d + 2) (0, 0) (0, 0) 97 [some (xr 12 0), some (xi x1), some (xi x2), none, none] [xi y0] h (PoI r)) (x1 x2 : Int) (h : Hp) (hL : Lay h) (hF : b_X12_firstWrong_3 rec x1 x2 h = some r) : X E mX12_firstWrong (d + 2) (0, 0) (0, 0) 96 [some (xr 12 0), some (xi x1), some (xi x2), none, none] [] h (PoI r) := by
  unfold b_X12_firstWrong_3 at hF
  refine x_iconst (n := 0) (b := 97) dX12_firstWrong_96 (by decide) rfl ?_
  exact x_dp (ls2 := [some (xr 12 0), some (xi x1), some (xi x2), none, none]) ⟨rfl, rfl, rfl, trivial⟩ (hr_97 x1 x2 0 h hL hF)
set_option maxHeartbeats 4000000 in
set_option maxRecDepth 100000 in
theorem t_X12_firstWrong_4 (E : xE) (d : Nat) (rec : Rk) (r : Int × Hp) (hr_106 : ∀ (x1 x2 : Int) (h : Hp), Lay h → rec 5 [x1, x2] h = some r → X E mX12_firstWrong (d + 2) (0, 0) (0, 0) 106 [some (xr 12 0), some (xi x1), some (xi x2), none, none] [] h (PoI r)) (x1 x2 y0 : Int) (h : Hp) (hL : Lay h) (hF : b_X12_firstWrong_4 rec x1 x2 y0 h = some r) : X E mX12_firstWrong (d + 2) (0, 0) (0, 0) 97 [some (xr 12 0), some (xi x1), some (xi x2), none, none] [xi y0] h (PoI r) := by
  unfold b_X12_firstWrong_4 at hF
  refine x_istore (i := 4) (b := 99) (ls2 := [some (xr 12 0), some (xi x1), some (xi x2), none, some (xi y0)]) dX12_firstWrong_97 (Nat.le_of_ble_eq_true rfl) rfl rfl ?_
  refine x_iload (i := 4) (b := 101) dX12_firstWrong_99 rfl rfl ?_
  refine x_if_ne (tgt := 106) (b := 104) dX12_firstWrong_101 (by decide) rfl (fun hc => ?_) (fun hc => ?_)
  · replace hF := br_F hc hF
    exact x_dp (ls2 := [some (xr 12 0), some (xi x1), some (xi x2), none, none]) ⟨rfl, rfl, rfl, trivial⟩ (hr_106 x1 x2 h hL hF)
  · replace hF := br_T hc hF
    refine x_iload_n (i := 2) (b := 105) dX12_firstWrong_104 rfl rfl rfl ?_
    refine x_ireturn dX12_firstWrong_105 rfl ⟨Nat.le_refl _, Nat.le_refl _⟩ ?_
    cases hF
    exact ⟨rfl, rfl, hL⟩
set_option maxHeartbeats 4000000 in
set_option maxRecDepth 100000 in
theorem t_X12_firstWrong_5 (E : xE) (d : Nat) (rec : Rk) (r : Int × Hp) (hr_2 : ∀ (x1 x2 : Int) (h : Hp), Lay h → rec 1 [x1, x2] h = some r → X E mX12_firstWrong (d + 2) (0, 0) (0, 0) 2 [some (xr 12 0), some (xi x1), some (xi x2), none, none] [] h (PoI r)) (x1 x2 : Int) (h : Hp) (hL : Lay h) (hF : b_X12_firstWrong_5 rec x1 x2 h = some r) : X E mX12_firstWrong (d + 2) (0, 0) (0, 0) 106 [some (xr 12 0), some (xi x1), some (xi x2), none, none] [] h (PoI r) := by
  unfold b_X12_firstWrong_5 at hF
  obtain ⟨hs, hF⟩ := ck_e hF
  refine x_iinc (i := 2) (b := 109) (ls2 := [some (xr 12 0), some (xi x1), some (xi (x2 + 1)), none, none]) dX12_firstWrong_106 rfl (Nat.le_of_ble_eq_true rfl) hs rfl rfl ?_
  refine x_goto (tgt := 2) dX12_firstWrong_109 (by decide) ?_
  exact x_dp (ls2 := [some (xr 12 0), some (xi x1), some (xi (x2 + 1)), none, none]) ⟨rfl, rfl, rfl, trivial⟩ (hr_2 x1 (x2 + 1) h hL hF)
set_option maxHeartbeats 4000000 in
set_option maxRecDepth 100000 in
theorem u_X12_firstWrong (E : xE) (d : Nat) (r : Int × Hp) : ∀ n : Nat, (∀ (x1 : Int) (h : Hp), Lay h → g_X12_firstWrong n 0 [x1] h = some r → X E mX12_firstWrong (d + 2) (0, 0) (0, 0) 0 [some (xr 12 0), some (xi x1), none, none, none] [] h (PoI r)) ∧ (∀ (x1 x2 : Int) (h : Hp), Lay h → g_X12_firstWrong n 1 [x1, x2] h = some r → X E mX12_firstWrong (d + 2) (0, 0) (0, 0) 2 [some (xr 12 0), some (xi x1), some (xi x2), none, none] [] h (PoI r)) ∧ (∀ (x1 x2 y0 : Int) (h : Hp), Lay h → g_X12_firstWrong n 2 [x1, x2, y0] h = some r → X E mX12_firstWrong (d + 2) (0, 0) (0, 0) 83 [some (xr 12 0), some (xi x1), some (xi x2), none, none] [xi y0] h (PoI r)) ∧ (∀ (x1 x2 : Int) (h : Hp), Lay h → g_X12_firstWrong n 3 [x1, x2] h = some r → X E mX12_firstWrong (d + 2) (0, 0) (0, 0) 96 [some (xr 12 0), some (xi x1), some (xi x2), none, none] [] h (PoI r)) ∧ (∀ (x1 x2 y0 : Int) (h : Hp), Lay h → g_X12_firstWrong n 4 [x1, x2, y0] h = some r → X E mX12_firstWrong (d + 2) (0, 0) (0, 0) 97 [some (xr 12 0), some (xi x1), some (xi x2), none, none] [xi y0] h (PoI r)) ∧ (∀ (x1 x2 : Int) (h : Hp), Lay h → g_X12_firstWrong n 5 [x1, x2] h = some r → X E mX12_firstWrong (d + 2) (0, 0) (0, 0) 106 [some (xr 12 0), some (xi x1), some (xi x2), none, none] [] h (PoI r)) := by
  intro n
  induction n with
  | zero => exact ⟨fun _ _ _ hF => no_e (r := r) hF, fun _ _ _ _ hF => no_e (r := r) hF, fun _ _ _ _ _ hF => no_e (r := r) hF, fun _ _ _ _ hF => no_e (r := r) hF, fun _ _ _ _ _ hF => no_e (r := r) hF, fun _ _ _ _ hF => no_e (r := r) hF⟩
  | succ n ih => exact ⟨fun x1 h hL hF => t_X12_firstWrong_0 E d (g_X12_firstWrong n) r ih.2.1 x1 h hL hF, fun x1 x2 h hL hF => t_X12_firstWrong_1 E d (g_X12_firstWrong n) r ih.2.2.1 ih.2.2.2.1 ih.2.2.2.2.2 x1 x2 h hL hF, fun x1 x2 y0 h hL hF => t_X12_firstWrong_2 E d (g_X12_firstWrong n) r ih.2.2.2.1 ih.2.2.2.2.1 x1 x2 y0 h hL hF, fun x1 x2 h hL hF => t_X12_firstWrong_3 E d (g_X12_firstWrong n) r ih.2.2.2.2.1 x1 x2 h hL hF, fun x1 x2 y0 h hL hF => t_X12_firstWrong_4 E d (g_X12_firstWrong n) r ih.2.2.2.2.2 x1 x2 y0 h hL hF, fun x1 x2 h hL hF => t_X12_firstWrong_5 E d (g_X12_firstWrong n) r ih.2.1 x1 x2 h hL hF⟩
theorem c_X12_firstWrong (d : Nat) (x1 : Int) (h : Hp) (r : Int × Hp) (hL : Lay h) (hF : f_X12_firstWrong x1 h = some r) : Sp mX12_firstWrong (d + 2) (0, 0) [xr 12 0, xi x1] h (PoI r) :=
  sp_of (by decide) rfl (Nat.le_of_ble_eq_true rfl) (ls := [some (xr 12 0), some (xi x1), none, none, none]) rfl (fun E _ => (u_X12_firstWrong E d r FU).1 x1 h hL hF)
theorem dX12_fraud_0 : decode cX12_fraud 0 = .ok (.aload_n 0, 1) := by decide +kernel
theorem dX12_fraud_1 : decode cX12_fraud 1 = .ok (.iconst 0, 1) := by decide +kernel
theorem dX12_fraud_2 : decode cX12_fraud 2 = .ok (.putfield 194, 3) := by decide +kernel
theorem dX12_fraud_5 : decode cX12_fraud 5 = .ok (.aload_n 0, 1) := by decide +kernel
theorem dX12_fraud_6 : decode cX12_fraud 6 = .ok (.invokevirtual 502, 3) := by decide +kernel
theorem dX12_fraud_9 : decode cX12_fraud 9 = .ok (.aload_n 0, 1) := by decide +kernel
theorem dX12_fraud_10 : decode cX12_fraud 10 = .ok (.iconst 0, 1) := by decide +kernel
theorem dX12_fraud_11 : decode cX12_fraud 11 = .ok (.invokevirtual 505, 3) := by decide +kernel
theorem dX12_fraud_14 : decode cX12_fraud 14 = .ok (.ireturn, 1) := by decide +kernel
noncomputable def b_X12_fraud_0 (rec : Rk) (h : Hp) : Option (Int × Hp) :=
  lt (sI h 12 0 0 0) fun h1 =>
  bd (f_X12_strikes h1) fun v2 h3 =>
  bd (f_X12_firstWrong 0 h3) fun v4 h5 =>
  some (v4, h5)
noncomputable def g_X12_fraud (n : Nat) : Rk := Nat.rec (motive := fun _ => Rk) (fun _ _ _ => none) (fun _ rec k l h => if k = 0 then b_X12_fraud_0 rec  h else none) n
noncomputable def f_X12_fraud (h : Hp) : Option (Int × Hp) := g_X12_fraud FU 0 [] h
set_option maxHeartbeats 4000000 in
set_option maxRecDepth 100000 in
theorem t_X12_fraud_0 (E : xE) (d : Nat) (rec : Rk) (r : Int × Hp) (h : Hp) (hL : Lay h) (hF : b_X12_fraud_0 rec  h = some r) : X E mX12_fraud (d + 3) (0, 0) (0, 0) 0 [some (xr 12 0)] [] h (PoI r) := by
  unfold b_X12_fraud_0 at hF
  refine x_aload_n (i := 0) (b := 1) dX12_fraud_0 rfl rfl rfl ?_
  refine x_iconst (n := 0) (b := 2) dX12_fraud_1 (by decide) rfl ?_
  refine x_putI (b := 5) fk_X12_194 dX12_fraud_2 rfl rfl 0 rfl ?_
  obtain ⟨h1, e_h1, hF⟩ := lt_e hF
  refine x_hp (h2 := h1) e_h1 ?_
  replace hL : Lay h1 := by rw [← e_h1]; exact hL
  refine x_aload_n (i := 0) (b := 6) dX12_fraud_5 rfl rfl rfl ?_
  obtain ⟨v2, h3, hq, hF⟩ := bd_e hF
  refine x_callV (as := []) (rest := []) (b := 9) (c_X12_strikes d h1 _ hL hq) dX12_fraud_6 cw_X12_502 ⟨_, _, rfl, Nat.le_of_ble_eq_true rfl⟩ rfl rfl (Nat.le_of_ble_eq_true rfl) ⟨Nat.le_refl _, Nat.le_refl _⟩ rfl (fun rv hh hp _ => ?_)
  obtain ⟨rfl, rfl, hL⟩ := hp
  refine x_aload_n (i := 0) (b := 10) dX12_fraud_9 rfl rfl rfl ?_
  refine x_iconst (n := 0) (b := 11) dX12_fraud_10 (by decide) rfl ?_
  obtain ⟨v4, h5, hq, hF⟩ := bd_e hF
  refine x_callV (as := [xi 0]) (rest := []) (b := 14) (c_X12_firstWrong d 0 h3 _ hL hq) dX12_fraud_11 cw_X12_505 ⟨_, _, rfl, Nat.le_of_ble_eq_true rfl⟩ rfl rfl (Nat.le_of_ble_eq_true rfl) ⟨Nat.le_refl _, Nat.le_refl _⟩ rfl (fun rv hh hp _ => ?_)
  obtain ⟨rfl, rfl, hL⟩ := hp
  refine x_ireturn dX12_fraud_14 rfl ⟨Nat.le_refl _, Nat.le_refl _⟩ ?_
  cases hF
  exact ⟨rfl, rfl, hL⟩
set_option maxHeartbeats 4000000 in
set_option maxRecDepth 100000 in
theorem u_X12_fraud (E : xE) (d : Nat) (r : Int × Hp) : ∀ n : Nat, (∀ (h : Hp), Lay h → g_X12_fraud n 0 [] h = some r → X E mX12_fraud (d + 3) (0, 0) (0, 0) 0 [some (xr 12 0)] [] h (PoI r)) := by
  intro n
  induction n with
  | zero => exact fun _ _ hF => no_e (r := r) hF
  | succ n ih => exact fun h hL hF => t_X12_fraud_0 E d (g_X12_fraud n) r   h hL hF
theorem c_X12_fraud (d : Nat) (h : Hp) (r : Int × Hp) (hL : Lay h) (hF : f_X12_fraud  h = some r) : Sp mX12_fraud (d + 3) (0, 0) [xr 12 0] h (PoI r) :=
  sp_of (by decide) rfl (Nat.le_of_ble_eq_true rfl) (ls := [some (xr 12 0)]) rfl (fun E _ => (u_X12_fraud E d r FU)  h hL hF)
theorem dX12_goes_0 : decode cX12_goes 0 = .ok (.aload_n 0, 1) := by decide +kernel
theorem dX12_goes_1 : decode cX12_goes 1 = .ok (.iconst 0, 1) := by decide +kernel
theorem dX12_goes_2 : decode cX12_goes 2 = .ok (.putfield 389, 3) := by decide +kernel
theorem dX12_goes_5 : decode cX12_goes 5 = .ok (.aload_n 0, 1) := by decide +kernel
theorem dX12_goes_6 : decode cX12_goes 6 = .ok (.getfield 68, 3) := by decide +kernel
theorem dX12_goes_9 : decode cX12_goes 9 = .ok (.iload_n 1, 1) := by decide +kernel
theorem dX12_goes_10 : decode cX12_goes 10 = .ok (.iaload, 1) := by decide +kernel
theorem dX12_goes_11 : decode cX12_goes 11 = .ok (.istore_n 2, 1) := by decide +kernel
theorem dX12_goes_12 : decode cX12_goes 12 = .ok (.iload_n 2, 1) := by decide +kernel
theorem dX12_goes_13 : decode cX12_goes 13 = .ok (.aload_n 0, 1) := by decide +kernel
theorem dX12_goes_14 : decode cX12_goes 14 = .ok (.getfield 71, 3) := by decide +kernel
theorem dX12_goes_17 : decode cX12_goes 17 = .ok (.iload_n 1, 1) := by decide +kernel
theorem dX12_goes_18 : decode cX12_goes 18 = .ok (.iaload, 1) := by decide +kernel
theorem dX12_goes_19 : decode cX12_goes 19 = .ok (.if_icmp .ge 83, 3) := by decide +kernel
theorem dX12_goes_22 : decode cX12_goes 22 = .ok (.aload_n 0, 1) := by decide +kernel
theorem dX12_goes_23 : decode cX12_goes 23 = .ok (.getfield 74, 3) := by decide +kernel
theorem dX12_goes_26 : decode cX12_goes 26 = .ok (.iload_n 2, 1) := by decide +kernel
theorem dX12_goes_27 : decode cX12_goes 27 = .ok (.iaload, 1) := by decide +kernel
theorem dX12_goes_28 : decode cX12_goes 28 = .ok (.iconst 2, 1) := by decide +kernel
theorem dX12_goes_29 : decode cX12_goes 29 = .ok (.if_icmp .ne 18, 3) := by decide +kernel
theorem dX12_goes_32 : decode cX12_goes 32 = .ok (.aload_n 0, 1) := by decide +kernel
theorem dX12_goes_33 : decode cX12_goes 33 = .ok (.aload_n 0, 1) := by decide +kernel
theorem dX12_goes_34 : decode cX12_goes 34 = .ok (.getfield 77, 3) := by decide +kernel
theorem dX12_goes_37 : decode cX12_goes 37 = .ok (.iload_n 2, 1) := by decide +kernel
theorem dX12_goes_38 : decode cX12_goes 38 = .ok (.iaload, 1) := by decide +kernel
theorem dX12_goes_39 : decode cX12_goes 39 = .ok (.invokevirtual 406, 3) := by decide +kernel
theorem dX12_goes_42 : decode cX12_goes 42 = .ok (.ifCond .ne 54, 3) := by decide +kernel
theorem dX12_goes_45 : decode cX12_goes 45 = .ok (.iconst 0, 1) := by decide +kernel
theorem dX12_goes_46 : decode cX12_goes 46 = .ok (.ireturn, 1) := by decide +kernel
theorem dX12_goes_47 : decode cX12_goes 47 = .ok (.aload_n 0, 1) := by decide +kernel
theorem dX12_goes_48 : decode cX12_goes 48 = .ok (.getfield 139, 3) := by decide +kernel
theorem dX12_goes_51 : decode cX12_goes 51 = .ok (.aload_n 0, 1) := by decide +kernel
theorem dX12_goes_52 : decode cX12_goes 52 = .ok (.getfield 389, 3) := by decide +kernel
theorem dX12_goes_55 : decode cX12_goes 55 = .ok (.aload_n 0, 1) := by decide +kernel
theorem dX12_goes_56 : decode cX12_goes 56 = .ok (.getfield 74, 3) := by decide +kernel
theorem dX12_goes_59 : decode cX12_goes 59 = .ok (.iload_n 2, 1) := by decide +kernel
theorem dX12_goes_60 : decode cX12_goes 60 = .ok (.iaload, 1) := by decide +kernel
theorem dX12_goes_61 : decode cX12_goes 61 = .ok (.ifCond .ne 13, 3) := by decide +kernel
theorem dX12_goes_64 : decode cX12_goes 64 = .ok (.aload_n 0, 1) := by decide +kernel
theorem dX12_goes_65 : decode cX12_goes 65 = .ok (.getfield 77, 3) := by decide +kernel
theorem dX12_goes_68 : decode cX12_goes 68 = .ok (.iload_n 2, 1) := by decide +kernel
theorem dX12_goes_69 : decode cX12_goes 69 = .ok (.iaload, 1) := by decide +kernel
theorem dX12_goes_70 : decode cX12_goes 70 = .ok (.i2l, 1) := by decide +kernel
theorem dX12_goes_71 : decode cX12_goes 71 = .ok (.goto 14, 3) := by decide +kernel
theorem dX12_goes_74 : decode cX12_goes 74 = .ok (.aload_n 0, 1) := by decide +kernel
theorem dX12_goes_75 : decode cX12_goes 75 = .ok (.getfield 135, 3) := by decide +kernel
theorem dX12_goes_78 : decode cX12_goes 78 = .ok (.aload_n 0, 1) := by decide +kernel
theorem dX12_goes_79 : decode cX12_goes 79 = .ok (.getfield 77, 3) := by decide +kernel
theorem dX12_goes_82 : decode cX12_goes 82 = .ok (.iload_n 2, 1) := by decide +kernel
theorem dX12_goes_83 : decode cX12_goes 83 = .ok (.iaload, 1) := by decide +kernel
theorem dX12_goes_84 : decode cX12_goes 84 = .ok (.laload, 1) := by decide +kernel
theorem dX12_goes_85 : decode cX12_goes 85 = .ok (.lastore, 1) := by decide +kernel
theorem dX12_goes_86 : decode cX12_goes 86 = .ok (.aload_n 0, 1) := by decide +kernel
theorem dX12_goes_87 : decode cX12_goes 87 = .ok (.dup, 1) := by decide +kernel
theorem dX12_goes_88 : decode cX12_goes 88 = .ok (.getfield 389, 3) := by decide +kernel
theorem dX12_goes_91 : decode cX12_goes 91 = .ok (.iconst 1, 1) := by decide +kernel
theorem dX12_goes_92 : decode cX12_goes 92 = .ok (.iadd, 1) := by decide +kernel
theorem dX12_goes_93 : decode cX12_goes 93 = .ok (.putfield 389, 3) := by decide +kernel
theorem dX12_goes_96 : decode cX12_goes 96 = .ok (.iinc 2 1, 3) := by decide +kernel
theorem dX12_goes_99 : decode cX12_goes 99 = .ok (.goto (-87), 3) := by decide +kernel
theorem dX12_goes_102 : decode cX12_goes 102 = .ok (.iconst 1, 1) := by decide +kernel
theorem dX12_goes_103 : decode cX12_goes 103 = .ok (.ireturn, 1) := by decide +kernel
noncomputable def b_X12_goes_0 (rec : Rk) (x1 : Int) (h : Hp) : Option (Int × Hp) :=
  lt (sI h 12 0 60 0) fun h1 =>
  ck (0 ≤ x1 ∧ x1 < 18) <|
  lt (gI h1 79 0 x1) fun z2 =>
  rec 1 [x1, z2] h1
noncomputable def b_X12_goes_1 (rec : Rk) (x1 x2 : Int) (h : Hp) : Option (Int × Hp) :=
  ck (0 ≤ x1 ∧ x1 < 18) <|
  if (gI h 80 0 x1) ≤ x2 then (
    some (1, h)
  ) else (
    ck (0 ≤ x2 ∧ x2 < 128) <|
    if (gI h 81 0 x2) = 2 then (
      ck (0 ≤ x2 ∧ x2 < 128) <|
      bd (f_X12_works (gI h 82 0 x2) h) fun v1 h2 =>
      if v1 = 0 then (
        some (0, h2)
      ) else (
        rec 3 [x1, x2] h2
      )
    ) else (
      ck (0 ≤ x2 ∧ x2 < 128) <|
      if (gI h 81 0 x2) = 0 then (
        ck (0 ≤ x2 ∧ x2 < 128) <|
        rec 2 [x1, x2, gI h 82 0 x2, gI h 12 0 60] h
      ) else (
        ck (0 ≤ x2 ∧ x2 < 128) <|
        ck (0 ≤ (gI h 82 0 x2) ∧ (gI h 82 0 x2) < 7) <|
        rec 2 [x1, x2, gI h 98 0 (gI h 82 0 x2), gI h 12 0 60] h
      )
    )
  )
noncomputable def b_X12_goes_2 (rec : Rk) (x1 x2 y0 y1 : Int) (h : Hp) : Option (Int × Hp) :=
  ck (0 ≤ y1 ∧ y1 < 64) <|
  lt (sI h 99 0 y1 y0) fun h1 =>
  ck (-2147483648 ≤ (gI h1 12 0 60) + 1 ∧ (gI h1 12 0 60) + 1 < 2147483648) <|
  lt (sI h1 12 0 60 ((gI h1 12 0 60) + 1)) fun h2 =>
  rec 3 [x1, x2] h2
noncomputable def b_X12_goes_3 (rec : Rk) (x1 x2 : Int) (h : Hp) : Option (Int × Hp) :=
  ck (-2147483648 ≤ x2 + 1 ∧ x2 + 1 < 2147483648) <|
  rec 1 [x1, x2 + 1] h
noncomputable def g_X12_goes (n : Nat) : Rk := Nat.rec (motive := fun _ => Rk) (fun _ _ _ => none) (fun _ rec k l h => if k = 0 then b_X12_goes_0 rec (l.getD 0 0) h else if k = 1 then b_X12_goes_1 rec (l.getD 0 0) (l.getD 1 0) h else if k = 2 then b_X12_goes_2 rec (l.getD 0 0) (l.getD 1 0) (l.getD 2 0) (l.getD 3 0) h else if k = 3 then b_X12_goes_3 rec (l.getD 0 0) (l.getD 1 0) h else none) n
noncomputable def f_X12_goes (x1 : Int) (h : Hp) : Option (Int × Hp) := g_X12_goes FU 0 [x1] h
set_option maxHeartbeats 4000000 in
set_option maxRecDepth 100000 in
theorem t_X12_goes_0 (E : xE) (d : Nat) (rec : Rk) (r : Int × Hp) (hr_12 : ∀ (x1 x2 : Int) (h : Hp), Lay h → rec 1 [x1, x2] h = some r → X E mX12_goes (d + 3) (0, 0) (0, 0) 12 [some (xr 12 0), some (xi x1), some (xi x2)] [] h (PoI r)) (x1 : Int) (h : Hp) (hL : Lay h) (hF : b_X12_goes_0 rec x1 h = some r) : X E mX12_goes (d + 3) (0, 0) (0, 0) 0 [some (xr 12 0), some (xi x1), none] [] h (PoI r) := by
  unfold b_X12_goes_0 at hF
  refine x_aload_n (i := 0) (b := 1) dX12_goes_0 rfl rfl rfl ?_
  refine x_iconst (n := 0) (b := 2) dX12_goes_1 (by decide) rfl ?_
  refine x_putI (b := 5) fk_X12_389 dX12_goes_2 rfl rfl 60 rfl ?_
  obtain ⟨h1, e_h1, hF⟩ := lt_e hF
  refine x_hp (h2 := h1) e_h1 ?_
  replace hL : Lay h1 := by rw [← e_h1]; exact hL
  refine x_aload_n (i := 0) (b := 6) dX12_goes_5 rfl rfl rfl ?_
  refine x_getL (j := 0) (t := (79, 0, true)) (b := 9) fk_X12_68 dX12_goes_6 rfl hL rfl rfl rfl ?_
  refine x_iload_n (i := 1) (b := 10) dX12_goes_9 rfl rfl rfl ?_
  obtain ⟨hs, hF⟩ := ck_e hF
  refine x_iald (v := gI h1 79 0 x1) (b := 11) ak_79 dX12_goes_10 hs rfl rfl ?_
  obtain ⟨z2, e_z2, hF⟩ := lt_e hF
  refine x_eq (y := z2) e_z2 ?_
  refine x_istore_n (i := 2) (b := 12) (ls2 := [some (xr 12 0), some (xi x1), some (xi z2)]) dX12_goes_11 rfl (Nat.le_of_ble_eq_true rfl) rfl rfl ?_
  exact x_dp (ls2 := [some (xr 12 0), some (xi x1), some (xi z2)]) ⟨rfl, rfl, rfl, trivial⟩ (hr_12 x1 z2 h1 hL hF)
set_option maxHeartbeats 4000000 in
set_option maxRecDepth 100000 in
theorem t_X12_goes_1 (E : xE) (d : Nat) (rec : Rk) (r : Int × Hp) (hr_85 : ∀ (x1 x2 y0 y1 : Int) (h : Hp), Lay h → rec 2 [x1, x2, y0, y1] h = some r → X E mX12_goes (d + 3) (0, 0) (0, 0) 85 [some (xr 12 0), some (xi x1), some (xi x2)] [xl y0, xi y1, xr 99 0] h (PoI r)) (hr_96 : ∀ (x1 x2 : Int) (h : Hp), Lay h → rec 3 [x1, x2] h = some r → X E mX12_goes (d + 3) (0, 0) (0, 0) 96 [some (xr 12 0), some (xi x1), some (xi x2)] [] h (PoI r)) (x1 x2 : Int) (h : Hp) (hL : Lay h) (hF : b_X12_goes_1 rec x1 x2 h = some r) : X E mX12_goes (d + 3) (0, 0) (0, 0) 12 [some (xr 12 0), some (xi x1), some (xi x2)] [] h (PoI r) := by
  unfold b_X12_goes_1 at hF
  refine x_iload_n (i := 2) (b := 13) dX12_goes_12 rfl rfl rfl ?_
  refine x_aload_n (i := 0) (b := 14) dX12_goes_13 rfl rfl rfl ?_
  refine x_getL (j := 0) (t := (80, 0, true)) (b := 17) fk_X12_71 dX12_goes_14 rfl hL rfl rfl rfl ?_
  refine x_iload_n (i := 1) (b := 18) dX12_goes_17 rfl rfl rfl ?_
  obtain ⟨hs, hF⟩ := ck_e hF
  refine x_iald (v := gI h 80 0 x1) (b := 19) ak_80 dX12_goes_18 hs rfl rfl ?_
  refine x_icmp_ge (tgt := 102) (b := 22) dX12_goes_19 (by decide) rfl (fun hc => ?_) (fun hc => ?_)
  · replace hF := br_T hc hF
    refine x_iconst (n := 1) (b := 103) dX12_goes_102 (by decide) rfl ?_
    refine x_zreturn dX12_goes_103 rfl ⟨Nat.le_refl _, Nat.le_refl _⟩ (by decide) ?_
    cases hF
    exact ⟨rfl, rfl, hL⟩
  · replace hF := br_F hc hF
    refine x_aload_n (i := 0) (b := 23) dX12_goes_22 rfl rfl rfl ?_
    refine x_getL (j := 0) (t := (81, 0, true)) (b := 26) fk_X12_74 dX12_goes_23 rfl hL rfl rfl rfl ?_
    refine x_iload_n (i := 2) (b := 27) dX12_goes_26 rfl rfl rfl ?_
    obtain ⟨hs, hF⟩ := ck_e hF
    refine x_iald (v := gI h 81 0 x2) (b := 28) ak_81 dX12_goes_27 hs rfl rfl ?_
    refine x_iconst (n := 2) (b := 29) dX12_goes_28 (by decide) rfl ?_
    refine x_icmp_ne (tgt := 47) (b := 32) dX12_goes_29 (by decide) rfl (fun hc => ?_) (fun hc => ?_)
    · replace hF := br_F hc hF
      refine x_aload_n (i := 0) (b := 48) dX12_goes_47 rfl rfl rfl ?_
      refine x_getL (j := 0) (t := (99, 0, true)) (b := 51) fk_X12_139 dX12_goes_48 rfl hL rfl rfl rfl ?_
      refine x_aload_n (i := 0) (b := 52) dX12_goes_51 rfl rfl rfl ?_
      refine x_getI (v := gI h 12 0 60) (b := 55) fk_X12_389 dX12_goes_52 (by decide) rfl rfl ?_
      refine x_aload_n (i := 0) (b := 56) dX12_goes_55 rfl rfl rfl ?_
      refine x_getL (j := 0) (t := (81, 0, true)) (b := 59) fk_X12_74 dX12_goes_56 rfl hL rfl rfl rfl ?_
      refine x_iload_n (i := 2) (b := 60) dX12_goes_59 rfl rfl rfl ?_
      obtain ⟨hs, hF⟩ := ck_e hF
      refine x_iald (v := gI h 81 0 x2) (b := 61) ak_81 dX12_goes_60 hs rfl rfl ?_
      refine x_if_ne (tgt := 74) (b := 64) dX12_goes_61 (by decide) rfl (fun hc => ?_) (fun hc => ?_)
      · replace hF := br_F hc hF
        refine x_aload_n (i := 0) (b := 75) dX12_goes_74 rfl rfl rfl ?_
        refine x_getL (j := 0) (t := (98, 0, true)) (b := 78) fk_X12_135 dX12_goes_75 rfl hL rfl rfl rfl ?_
        refine x_aload_n (i := 0) (b := 79) dX12_goes_78 rfl rfl rfl ?_
        refine x_getL (j := 0) (t := (82, 0, true)) (b := 82) fk_X12_77 dX12_goes_79 rfl hL rfl rfl rfl ?_
        refine x_iload_n (i := 2) (b := 83) dX12_goes_82 rfl rfl rfl ?_
        obtain ⟨hs, hF⟩ := ck_e hF
        refine x_iald (v := gI h 82 0 x2) (b := 84) ak_82 dX12_goes_83 hs rfl rfl ?_
        obtain ⟨hs, hF⟩ := ck_e hF
        refine x_lald (v := gI h 98 0 (gI h 82 0 x2)) (b := 85) ak_98 dX12_goes_84 hs rfl rfl ?_
        exact x_dp (ls2 := [some (xr 12 0), some (xi x1), some (xi x2)]) ⟨rfl, rfl, rfl, trivial⟩ (hr_85 x1 x2 (gI h 98 0 (gI h 82 0 x2)) (gI h 12 0 60) h hL hF)
      · replace hF := br_T hc hF
        refine x_aload_n (i := 0) (b := 65) dX12_goes_64 rfl rfl rfl ?_
        refine x_getL (j := 0) (t := (82, 0, true)) (b := 68) fk_X12_77 dX12_goes_65 rfl hL rfl rfl rfl ?_
        refine x_iload_n (i := 2) (b := 69) dX12_goes_68 rfl rfl rfl ?_
        obtain ⟨hs, hF⟩ := ck_e hF
        refine x_iald (v := gI h 82 0 x2) (b := 70) ak_82 dX12_goes_69 hs rfl rfl ?_
        refine x_i2l (b := 71) dX12_goes_70 rfl ?_
        refine x_goto (tgt := 85) dX12_goes_71 (by decide) ?_
        exact x_dp (ls2 := [some (xr 12 0), some (xi x1), some (xi x2)]) ⟨rfl, rfl, rfl, trivial⟩ (hr_85 x1 x2 (gI h 82 0 x2) (gI h 12 0 60) h hL hF)
    · replace hF := br_T hc hF
      refine x_aload_n (i := 0) (b := 33) dX12_goes_32 rfl rfl rfl ?_
      refine x_aload_n (i := 0) (b := 34) dX12_goes_33 rfl rfl rfl ?_
      refine x_getL (j := 0) (t := (82, 0, true)) (b := 37) fk_X12_77 dX12_goes_34 rfl hL rfl rfl rfl ?_
      refine x_iload_n (i := 2) (b := 38) dX12_goes_37 rfl rfl rfl ?_
      obtain ⟨hs, hF⟩ := ck_e hF
      refine x_iald (v := gI h 82 0 x2) (b := 39) ak_82 dX12_goes_38 hs rfl rfl ?_
      obtain ⟨v1, h2, hq, hF⟩ := bd_e hF
      refine x_callV (as := [xi (gI h 82 0 x2)]) (rest := []) (b := 42) (c_X12_works d (gI h 82 0 x2) h _ hL hq) dX12_goes_39 cw_X12_406 ⟨_, _, rfl, Nat.le_of_ble_eq_true rfl⟩ rfl rfl (Nat.le_of_ble_eq_true rfl) ⟨Nat.le_refl _, Nat.le_refl _⟩ rfl (fun rv hh hp _ => ?_)
      obtain ⟨rfl, rfl, hL⟩ := hp
      refine x_if_ne (tgt := 96) (b := 45) dX12_goes_42 (by decide) rfl (fun hc => ?_) (fun hc => ?_)
      · replace hF := br_F hc hF
        exact x_dp (ls2 := [some (xr 12 0), some (xi x1), some (xi x2)]) ⟨rfl, rfl, rfl, trivial⟩ (hr_96 x1 x2 h2 hL hF)
      · replace hF := br_T hc hF
        refine x_iconst (n := 0) (b := 46) dX12_goes_45 (by decide) rfl ?_
        refine x_zreturn dX12_goes_46 rfl ⟨Nat.le_refl _, Nat.le_refl _⟩ (by decide) ?_
        cases hF
        exact ⟨rfl, rfl, hL⟩
set_option maxHeartbeats 4000000 in
set_option maxRecDepth 100000 in
theorem t_X12_goes_2 (E : xE) (d : Nat) (rec : Rk) (r : Int × Hp) (hr_96 : ∀ (x1 x2 : Int) (h : Hp), Lay h → rec 3 [x1, x2] h = some r → X E mX12_goes (d + 3) (0, 0) (0, 0) 96 [some (xr 12 0), some (xi x1), some (xi x2)] [] h (PoI r)) (x1 x2 y0 y1 : Int) (h : Hp) (hL : Lay h) (hF : b_X12_goes_2 rec x1 x2 y0 y1 h = some r) : X E mX12_goes (d + 3) (0, 0) (0, 0) 85 [some (xr 12 0), some (xi x1), some (xi x2)] [xl y0, xi y1, xr 99 0] h (PoI r) := by
  unfold b_X12_goes_2 at hF
  obtain ⟨hs, hF⟩ := ck_e hF
  have hs1 := hs
  refine x_last (b := 86) ak_99 dX12_goes_85 hs1 rfl ?_
  obtain ⟨h1, e_h1, hF⟩ := lt_e hF
  refine x_hp (h2 := h1) e_h1 ?_
  replace hL : Lay h1 := by rw [← e_h1]; exact hL
  refine x_aload_n (i := 0) (b := 87) dX12_goes_86 rfl rfl rfl ?_
  refine x_dup (b := 88) dX12_goes_87 rfl rfl ?_
  refine x_getI (v := gI h1 12 0 60) (b := 91) fk_X12_389 dX12_goes_88 (by decide) rfl rfl ?_
  refine x_iconst (n := 1) (b := 92) dX12_goes_91 (by decide) rfl ?_
  obtain ⟨hs, hF⟩ := ck_e hF
  refine x_iadd (b := 93) dX12_goes_92 hs rfl ?_
  refine x_putI (b := 96) fk_X12_389 dX12_goes_93 rfl rfl 60 rfl ?_
  obtain ⟨h2, e_h2, hF⟩ := lt_e hF
  refine x_hp (h2 := h2) e_h2 ?_
  replace hL : Lay h2 := by rw [← e_h2]; exact hL
  exact x_dp (ls2 := [some (xr 12 0), some (xi x1), some (xi x2)]) ⟨rfl, rfl, rfl, trivial⟩ (hr_96 x1 x2 h2 hL hF)
set_option maxHeartbeats 4000000 in
set_option maxRecDepth 100000 in
theorem t_X12_goes_3 (E : xE) (d : Nat) (rec : Rk) (r : Int × Hp) (hr_12 : ∀ (x1 x2 : Int) (h : Hp), Lay h → rec 1 [x1, x2] h = some r → X E mX12_goes (d + 3) (0, 0) (0, 0) 12 [some (xr 12 0), some (xi x1), some (xi x2)] [] h (PoI r)) (x1 x2 : Int) (h : Hp) (hL : Lay h) (hF : b_X12_goes_3 rec x1 x2 h = some r) : X E mX12_goes (d + 3) (0, 0) (0, 0) 96 [some (xr 12 0), some (xi x1), some (xi x2)] [] h (PoI r) := by
  unfold b_X12_goes_3 at hF
  obtain ⟨hs, hF⟩ := ck_e hF
  refine x_iinc (i := 2) (b := 99) (ls2 := [some (xr 12 0), some (xi x1), some (xi (x2 + 1))]) dX12_goes_96 rfl (Nat.le_of_ble_eq_true rfl) hs rfl rfl ?_
  refine x_goto (tgt := 12) dX12_goes_99 (by decide) ?_
  exact x_dp (ls2 := [some (xr 12 0), some (xi x1), some (xi (x2 + 1))]) ⟨rfl, rfl, rfl, trivial⟩ (hr_12 x1 (x2 + 1) h hL hF)
set_option maxHeartbeats 4000000 in
set_option maxRecDepth 100000 in
theorem u_X12_goes (E : xE) (d : Nat) (r : Int × Hp) : ∀ n : Nat, (∀ (x1 : Int) (h : Hp), Lay h → g_X12_goes n 0 [x1] h = some r → X E mX12_goes (d + 3) (0, 0) (0, 0) 0 [some (xr 12 0), some (xi x1), none] [] h (PoI r)) ∧ (∀ (x1 x2 : Int) (h : Hp), Lay h → g_X12_goes n 1 [x1, x2] h = some r → X E mX12_goes (d + 3) (0, 0) (0, 0) 12 [some (xr 12 0), some (xi x1), some (xi x2)] [] h (PoI r)) ∧ (∀ (x1 x2 y0 y1 : Int) (h : Hp), Lay h → g_X12_goes n 2 [x1, x2, y0, y1] h = some r → X E mX12_goes (d + 3) (0, 0) (0, 0) 85 [some (xr 12 0), some (xi x1), some (xi x2)] [xl y0, xi y1, xr 99 0] h (PoI r)) ∧ (∀ (x1 x2 : Int) (h : Hp), Lay h → g_X12_goes n 3 [x1, x2] h = some r → X E mX12_goes (d + 3) (0, 0) (0, 0) 96 [some (xr 12 0), some (xi x1), some (xi x2)] [] h (PoI r)) := by
  intro n
  induction n with
  | zero => exact ⟨fun _ _ _ hF => no_e (r := r) hF, fun _ _ _ _ hF => no_e (r := r) hF, fun _ _ _ _ _ _ hF => no_e (r := r) hF, fun _ _ _ _ hF => no_e (r := r) hF⟩
  | succ n ih => exact ⟨fun x1 h hL hF => t_X12_goes_0 E d (g_X12_goes n) r ih.2.1 x1 h hL hF, fun x1 x2 h hL hF => t_X12_goes_1 E d (g_X12_goes n) r ih.2.2.1 ih.2.2.2 x1 x2 h hL hF, fun x1 x2 y0 y1 h hL hF => t_X12_goes_2 E d (g_X12_goes n) r ih.2.2.2 x1 x2 y0 y1 h hL hF, fun x1 x2 h hL hF => t_X12_goes_3 E d (g_X12_goes n) r ih.2.1 x1 x2 h hL hF⟩
theorem c_X12_goes (d : Nat) (x1 : Int) (h : Hp) (r : Int × Hp) (hL : Lay h) (hF : f_X12_goes x1 h = some r) : Sp mX12_goes (d + 3) (0, 0) [xr 12 0, xi x1] h (PoI r) :=
  sp_of (by decide) rfl (Nat.le_of_ble_eq_true rfl) (ls := [some (xr 12 0), some (xi x1), none]) rfl (fun E _ => (u_X12_goes E d r FU).1 x1 h hL hF)
theorem dX12_isAboard_0 : decode cX12_isAboard 0 = .ok (.aload_n 0, 1) := by decide +kernel
theorem dX12_isAboard_1 : decode cX12_isAboard 1 = .ok (.iload_n 2, 1) := by decide +kernel
theorem dX12_isAboard_2 : decode cX12_isAboard 2 = .ok (.invokevirtual 386, 3) := by decide +kernel
theorem dX12_isAboard_5 : decode cX12_isAboard 5 = .ok (.ifCond .eq 30, 3) := by decide +kernel
theorem dX12_isAboard_8 : decode cX12_isAboard 8 = .ok (.aload_n 0, 1) := by decide +kernel
theorem dX12_isAboard_9 : decode cX12_isAboard 9 = .ok (.getfield 87, 3) := by decide +kernel
theorem dX12_isAboard_12 : decode cX12_isAboard 12 = .ok (.iload_n 1, 1) := by decide +kernel
theorem dX12_isAboard_13 : decode cX12_isAboard 13 = .ok (.iaload, 1) := by decide +kernel
theorem dX12_isAboard_14 : decode cX12_isAboard 14 = .ok (.bipush 60, 2) := by decide +kernel
theorem dX12_isAboard_16 : decode cX12_isAboard 16 = .ok (.if_icmp .ge 19, 3) := by decide +kernel
theorem dX12_isAboard_19 : decode cX12_isAboard 19 = .ok (.aload_n 0, 1) := by decide +kernel
theorem dX12_isAboard_20 : decode cX12_isAboard 20 = .ok (.getfield 129, 3) := by decide +kernel
theorem dX12_isAboard_23 : decode cX12_isAboard 23 = .ok (.iconst 3, 1) := by decide +kernel
theorem dX12_isAboard_24 : decode cX12_isAboard 24 = .ok (.if_icmp .ne 13, 3) := by decide +kernel
theorem dX12_isAboard_27 : decode cX12_isAboard 27 = .ok (.aload_n 0, 1) := by decide +kernel
theorem dX12_isAboard_28 : decode cX12_isAboard 28 = .ok (.getfield 132, 3) := by decide +kernel
theorem dX12_isAboard_31 : decode cX12_isAboard 31 = .ok (.iload_n 2, 1) := by decide +kernel
theorem dX12_isAboard_32 : decode cX12_isAboard 32 = .ok (.if_icmp .ne 5, 3) := by decide +kernel
theorem dX12_isAboard_35 : decode cX12_isAboard 35 = .ok (.iconst 0, 1) := by decide +kernel
theorem dX12_isAboard_36 : decode cX12_isAboard 36 = .ok (.ireturn, 1) := by decide +kernel
theorem dX12_isAboard_37 : decode cX12_isAboard 37 = .ok (.iload_n 2, 1) := by decide +kernel
theorem dX12_isAboard_38 : decode cX12_isAboard 38 = .ok (.iconst 5, 1) := by decide +kernel
theorem dX12_isAboard_39 : decode cX12_isAboard 39 = .ok (.if_icmp .lt 20, 3) := by decide +kernel
theorem dX12_isAboard_42 : decode cX12_isAboard 42 = .ok (.aload_n 0, 1) := by decide +kernel
theorem dX12_isAboard_43 : decode cX12_isAboard 43 = .ok (.getfield 105, 3) := by decide +kernel
theorem dX12_isAboard_46 : decode cX12_isAboard 46 = .ok (.iload_n 1, 1) := by decide +kernel
theorem dX12_isAboard_47 : decode cX12_isAboard 47 = .ok (.iaload, 1) := by decide +kernel
theorem dX12_isAboard_48 : decode cX12_isAboard 48 = .ok (.iload_n 2, 1) := by decide +kernel
theorem dX12_isAboard_49 : decode cX12_isAboard 49 = .ok (.iconst 5, 1) := by decide +kernel
theorem dX12_isAboard_50 : decode cX12_isAboard 50 = .ok (.isub, 1) := by decide +kernel
theorem dX12_isAboard_51 : decode cX12_isAboard 51 = .ok (.ishr, 1) := by decide +kernel
theorem dX12_isAboard_52 : decode cX12_isAboard 52 = .ok (.iconst 1, 1) := by decide +kernel
theorem dX12_isAboard_53 : decode cX12_isAboard 53 = .ok (.iand, 1) := by decide +kernel
theorem dX12_isAboard_54 : decode cX12_isAboard 54 = .ok (.ifCond .ne 5, 3) := by decide +kernel
theorem dX12_isAboard_57 : decode cX12_isAboard 57 = .ok (.iconst 0, 1) := by decide +kernel
theorem dX12_isAboard_58 : decode cX12_isAboard 58 = .ok (.ireturn, 1) := by decide +kernel
theorem dX12_isAboard_59 : decode cX12_isAboard 59 = .ok (.aload_n 0, 1) := by decide +kernel
theorem dX12_isAboard_60 : decode cX12_isAboard 60 = .ok (.getfield 87, 3) := by decide +kernel
theorem dX12_isAboard_63 : decode cX12_isAboard 63 = .ok (.iload_n 1, 1) := by decide +kernel
theorem dX12_isAboard_64 : decode cX12_isAboard 64 = .ok (.iaload, 1) := by decide +kernel
theorem dX12_isAboard_65 : decode cX12_isAboard 65 = .ok (.aload_n 0, 1) := by decide +kernel
theorem dX12_isAboard_66 : decode cX12_isAboard 66 = .ok (.getfield 50, 3) := by decide +kernel
theorem dX12_isAboard_69 : decode cX12_isAboard 69 = .ok (.iload_n 2, 1) := by decide +kernel
theorem dX12_isAboard_70 : decode cX12_isAboard 70 = .ok (.iaload, 1) := by decide +kernel
theorem dX12_isAboard_71 : decode cX12_isAboard 71 = .ok (.if_icmp .lt 36, 3) := by decide +kernel
theorem dX12_isAboard_74 : decode cX12_isAboard 74 = .ok (.aload_n 0, 1) := by decide +kernel
theorem dX12_isAboard_75 : decode cX12_isAboard 75 = .ok (.getfield 87, 3) := by decide +kernel
theorem dX12_isAboard_78 : decode cX12_isAboard 78 = .ok (.iload_n 1, 1) := by decide +kernel
theorem dX12_isAboard_79 : decode cX12_isAboard 79 = .ok (.iaload, 1) := by decide +kernel
theorem dX12_isAboard_80 : decode cX12_isAboard 80 = .ok (.aload_n 0, 1) := by decide +kernel
theorem dX12_isAboard_81 : decode cX12_isAboard 81 = .ok (.getfield 53, 3) := by decide +kernel
theorem dX12_isAboard_84 : decode cX12_isAboard 84 = .ok (.iload_n 2, 1) := by decide +kernel
theorem dX12_isAboard_85 : decode cX12_isAboard 85 = .ok (.iaload, 1) := by decide +kernel
theorem dX12_isAboard_86 : decode cX12_isAboard 86 = .ok (.if_icmp .gt 21, 3) := by decide +kernel
theorem dX12_isAboard_89 : decode cX12_isAboard 89 = .ok (.aload_n 0, 1) := by decide +kernel
theorem dX12_isAboard_90 : decode cX12_isAboard 90 = .ok (.getfield 111, 3) := by decide +kernel
theorem dX12_isAboard_93 : decode cX12_isAboard 93 = .ok (.bipush 9, 2) := by decide +kernel
theorem dX12_isAboard_95 : decode cX12_isAboard 95 = .ok (.iload_n 1, 1) := by decide +kernel
theorem dX12_isAboard_96 : decode cX12_isAboard 96 = .ok (.imul, 1) := by decide +kernel
theorem dX12_isAboard_97 : decode cX12_isAboard 97 = .ok (.iload_n 2, 1) := by decide +kernel
theorem dX12_isAboard_98 : decode cX12_isAboard 98 = .ok (.iadd, 1) := by decide +kernel
theorem dX12_isAboard_99 : decode cX12_isAboard 99 = .ok (.baload, 1) := by decide +kernel
theorem dX12_isAboard_100 : decode cX12_isAboard 100 = .ok (.ifCond .ne 7, 3) := by decide +kernel
theorem dX12_isAboard_103 : decode cX12_isAboard 103 = .ok (.iconst 1, 1) := by decide +kernel
theorem dX12_isAboard_104 : decode cX12_isAboard 104 = .ok (.goto 4, 3) := by decide +kernel
theorem dX12_isAboard_107 : decode cX12_isAboard 107 = .ok (.iconst 0, 1) := by decide +kernel
theorem dX12_isAboard_108 : decode cX12_isAboard 108 = .ok (.ireturn, 1) := by decide +kernel
noncomputable def b_X12_isAboard_0 (rec : Rk) (x1 x2 : Int) (h : Hp) : Option (Int × Hp) :=
  bd (f_X12_isThere x2 h) fun v1 h2 =>
  if v1 = 0 then (
    some (0, h2)
  ) else (
    ck (0 ≤ x1 ∧ x1 < 23) <|
    if 60 ≤ (gI h2 84 0 x1) then (
      some (0, h2)
    ) else (
      if (gI h2 12 0 55) = 3 then (
        if (gI h2 12 0 56) = x2 then (
          some (0, h2)
        ) else (
          rec 1 [x1, x2] h2
        )
      ) else (
        rec 1 [x1, x2] h2
      )
    )
  )
noncomputable def b_X12_isAboard_1 (rec : Rk) (x1 x2 : Int) (h : Hp) : Option (Int × Hp) :=
  if x2 < 5 then (
    rec 2 [x1, x2] h
  ) else (
    ck (0 ≤ x1 ∧ x1 < 23) <|
    ck (-2147483648 ≤ x2 - 5 ∧ x2 - 5 < 2147483648) <|
    if (band (bshr (gI h 90 0 x1) (x2 - 5)) 1) = 0 then (
      some (0, h)
    ) else (
      rec 2 [x1, x2] h
    )
  )
noncomputable def b_X12_isAboard_2 (rec : Rk) (x1 x2 : Int) (h : Hp) : Option (Int × Hp) :=
  ck (0 ≤ x1 ∧ x1 < 23) <|
  ck (0 ≤ x2 ∧ x2 < 18) <|
  if (gI h 84 0 x1) < (gI h 73 0 x2) then (
    some (0, h)
  ) else (
    ck (0 ≤ x1 ∧ x1 < 23) <|
    ck (0 ≤ x2 ∧ x2 < 18) <|
    if (gI h 74 0 x2) < (gI h 84 0 x1) then (
      some (0, h)
    ) else (
      ck (-2147483648 ≤ 9 * x1 ∧ 9 * x1 < 2147483648) <|
      ck (-2147483648 ≤ (9 * x1) + x2 ∧ (9 * x1) + x2 < 2147483648) <|
      ck (0 ≤ ((9 * x1) + x2) ∧ ((9 * x1) + x2) < 207) <|
      if (gI h 92 0 ((9 * x1) + x2)) = 0 then (
        some (1, h)
      ) else (
        some (0, h)
      )
    )
  )
noncomputable def g_X12_isAboard (n : Nat) : Rk := Nat.rec (motive := fun _ => Rk) (fun _ _ _ => none) (fun _ rec k l h => if k = 0 then b_X12_isAboard_0 rec (l.getD 0 0) (l.getD 1 0) h else if k = 1 then b_X12_isAboard_1 rec (l.getD 0 0) (l.getD 1 0) h else if k = 2 then b_X12_isAboard_2 rec (l.getD 0 0) (l.getD 1 0) h else none) n
noncomputable def f_X12_isAboard (x1 x2 : Int) (h : Hp) : Option (Int × Hp) := g_X12_isAboard FU 0 [x1, x2] h
set_option maxHeartbeats 4000000 in
set_option maxRecDepth 100000 in
theorem t_X12_isAboard_0 (E : xE) (d : Nat) (rec : Rk) (r : Int × Hp) (hr_37 : ∀ (x1 x2 : Int) (h : Hp), Lay h → rec 1 [x1, x2] h = some r → X E mX12_isAboard (d + 2) (0, 0) (0, 0) 37 [some (xr 12 0), some (xi x1), some (xi x2)] [] h (PoI r)) (x1 x2 : Int) (h : Hp) (hL : Lay h) (hF : b_X12_isAboard_0 rec x1 x2 h = some r) : X E mX12_isAboard (d + 2) (0, 0) (0, 0) 0 [some (xr 12 0), some (xi x1), some (xi x2)] [] h (PoI r) := by
  unfold b_X12_isAboard_0 at hF
  refine x_aload_n (i := 0) (b := 1) dX12_isAboard_0 rfl rfl rfl ?_
  refine x_iload_n (i := 2) (b := 2) dX12_isAboard_1 rfl rfl rfl ?_
  obtain ⟨v1, h2, hq, hF⟩ := bd_e hF
  refine x_callV (as := [xi x2]) (rest := []) (b := 5) (c_X12_isThere d x2 h _ hL hq) dX12_isAboard_2 cw_X12_386 ⟨_, _, rfl, Nat.le_of_ble_eq_true rfl⟩ rfl rfl (Nat.le_of_ble_eq_true rfl) ⟨Nat.le_refl _, Nat.le_refl _⟩ rfl (fun rv hh hp _ => ?_)
  obtain ⟨rfl, rfl, hL⟩ := hp
  refine x_if_eq (tgt := 35) (b := 8) dX12_isAboard_5 (by decide) rfl (fun hc => ?_) (fun hc => ?_)
  · replace hF := br_T hc hF
    refine x_iconst (n := 0) (b := 36) dX12_isAboard_35 (by decide) rfl ?_
    refine x_zreturn dX12_isAboard_36 rfl ⟨Nat.le_refl _, Nat.le_refl _⟩ (by decide) ?_
    cases hF
    exact ⟨rfl, rfl, hL⟩
  · replace hF := br_F hc hF
    refine x_aload_n (i := 0) (b := 9) dX12_isAboard_8 rfl rfl rfl ?_
    refine x_getL (j := 0) (t := (84, 0, true)) (b := 12) fk_X12_87 dX12_isAboard_9 rfl hL rfl rfl rfl ?_
    refine x_iload_n (i := 1) (b := 13) dX12_isAboard_12 rfl rfl rfl ?_
    obtain ⟨hs, hF⟩ := ck_e hF
    refine x_iald (v := gI h2 84 0 x1) (b := 14) ak_84 dX12_isAboard_13 hs rfl rfl ?_
    refine x_bipush (n := 60) (b := 16) dX12_isAboard_14 (by decide) rfl ?_
    refine x_icmp_ge (tgt := 35) (b := 19) dX12_isAboard_16 (by decide) rfl (fun hc => ?_) (fun hc => ?_)
    · replace hF := br_T hc hF
      refine x_iconst (n := 0) (b := 36) dX12_isAboard_35 (by decide) rfl ?_
      refine x_zreturn dX12_isAboard_36 rfl ⟨Nat.le_refl _, Nat.le_refl _⟩ (by decide) ?_
      cases hF
      exact ⟨rfl, rfl, hL⟩
    · replace hF := br_F hc hF
      refine x_aload_n (i := 0) (b := 20) dX12_isAboard_19 rfl rfl rfl ?_
      refine x_getI (v := gI h2 12 0 55) (b := 23) fk_X12_129 dX12_isAboard_20 (by decide) rfl rfl ?_
      refine x_iconst (n := 3) (b := 24) dX12_isAboard_23 (by decide) rfl ?_
      refine x_icmp_ne (tgt := 37) (b := 27) dX12_isAboard_24 (by decide) rfl (fun hc => ?_) (fun hc => ?_)
      · replace hF := br_F hc hF
        exact x_dp (ls2 := [some (xr 12 0), some (xi x1), some (xi x2)]) ⟨rfl, rfl, rfl, trivial⟩ (hr_37 x1 x2 h2 hL hF)
      · replace hF := br_T hc hF
        refine x_aload_n (i := 0) (b := 28) dX12_isAboard_27 rfl rfl rfl ?_
        refine x_getI (v := gI h2 12 0 56) (b := 31) fk_X12_132 dX12_isAboard_28 (by decide) rfl rfl ?_
        refine x_iload_n (i := 2) (b := 32) dX12_isAboard_31 rfl rfl rfl ?_
        refine x_icmp_ne (tgt := 37) (b := 35) dX12_isAboard_32 (by decide) rfl (fun hc => ?_) (fun hc => ?_)
        · replace hF := br_F hc hF
          exact x_dp (ls2 := [some (xr 12 0), some (xi x1), some (xi x2)]) ⟨rfl, rfl, rfl, trivial⟩ (hr_37 x1 x2 h2 hL hF)
        · replace hF := br_T hc hF
          refine x_iconst (n := 0) (b := 36) dX12_isAboard_35 (by decide) rfl ?_
          refine x_zreturn dX12_isAboard_36 rfl ⟨Nat.le_refl _, Nat.le_refl _⟩ (by decide) ?_
          cases hF
          exact ⟨rfl, rfl, hL⟩
set_option maxHeartbeats 4000000 in
set_option maxRecDepth 100000 in
theorem t_X12_isAboard_1 (E : xE) (d : Nat) (rec : Rk) (r : Int × Hp) (hr_59 : ∀ (x1 x2 : Int) (h : Hp), Lay h → rec 2 [x1, x2] h = some r → X E mX12_isAboard (d + 2) (0, 0) (0, 0) 59 [some (xr 12 0), some (xi x1), some (xi x2)] [] h (PoI r)) (x1 x2 : Int) (h : Hp) (hL : Lay h) (hF : b_X12_isAboard_1 rec x1 x2 h = some r) : X E mX12_isAboard (d + 2) (0, 0) (0, 0) 37 [some (xr 12 0), some (xi x1), some (xi x2)] [] h (PoI r) := by
  unfold b_X12_isAboard_1 at hF
  refine x_iload_n (i := 2) (b := 38) dX12_isAboard_37 rfl rfl rfl ?_
  refine x_iconst (n := 5) (b := 39) dX12_isAboard_38 (by decide) rfl ?_
  refine x_icmp_lt (tgt := 59) (b := 42) dX12_isAboard_39 (by decide) rfl (fun hc => ?_) (fun hc => ?_)
  · replace hF := br_T hc hF
    exact x_dp (ls2 := [some (xr 12 0), some (xi x1), some (xi x2)]) ⟨rfl, rfl, rfl, trivial⟩ (hr_59 x1 x2 h hL hF)
  · replace hF := br_F hc hF
    refine x_aload_n (i := 0) (b := 43) dX12_isAboard_42 rfl rfl rfl ?_
    refine x_getL (j := 0) (t := (90, 0, true)) (b := 46) fk_X12_105 dX12_isAboard_43 rfl hL rfl rfl rfl ?_
    refine x_iload_n (i := 1) (b := 47) dX12_isAboard_46 rfl rfl rfl ?_
    obtain ⟨hs, hF⟩ := ck_e hF
    refine x_iald (v := gI h 90 0 x1) (b := 48) ak_90 dX12_isAboard_47 hs rfl rfl ?_
    refine x_iload_n (i := 2) (b := 49) dX12_isAboard_48 rfl rfl rfl ?_
    refine x_iconst (n := 5) (b := 50) dX12_isAboard_49 (by decide) rfl ?_
    obtain ⟨hs, hF⟩ := ck_e hF
    refine x_isub (b := 51) dX12_isAboard_50 hs rfl ?_
    refine x_ishr (b := 52) dX12_isAboard_51 rfl ?_
    refine x_iconst (n := 1) (b := 53) dX12_isAboard_52 (by decide) rfl ?_
    refine x_iand (b := 54) dX12_isAboard_53 rfl ?_
    refine x_if_ne (tgt := 59) (b := 57) dX12_isAboard_54 (by decide) rfl (fun hc => ?_) (fun hc => ?_)
    · replace hF := br_F hc hF
      exact x_dp (ls2 := [some (xr 12 0), some (xi x1), some (xi x2)]) ⟨rfl, rfl, rfl, trivial⟩ (hr_59 x1 x2 h hL hF)
    · replace hF := br_T hc hF
      refine x_iconst (n := 0) (b := 58) dX12_isAboard_57 (by decide) rfl ?_
      refine x_zreturn dX12_isAboard_58 rfl ⟨Nat.le_refl _, Nat.le_refl _⟩ (by decide) ?_
      cases hF
      exact ⟨rfl, rfl, hL⟩
set_option maxHeartbeats 4000000 in
set_option maxRecDepth 100000 in
theorem t_X12_isAboard_2 (E : xE) (d : Nat) (rec : Rk) (r : Int × Hp) (x1 x2 : Int) (h : Hp) (hL : Lay h) (hF : b_X12_isAboard_2 rec x1 x2 h = some r) : X E mX12_isAboard (d + 2) (0, 0) (0, 0) 59 [some (xr 12 0), some (xi x1), some (xi x2)] [] h (PoI r) := by
  unfold b_X12_isAboard_2 at hF
  refine x_aload_n (i := 0) (b := 60) dX12_isAboard_59 rfl rfl rfl ?_
  refine x_getL (j := 0) (t := (84, 0, true)) (b := 63) fk_X12_87 dX12_isAboard_60 rfl hL rfl rfl rfl ?_
  refine x_iload_n (i := 1) (b := 64) dX12_isAboard_63 rfl rfl rfl ?_
  obtain ⟨hs, hF⟩ := ck_e hF
  refine x_iald (v := gI h 84 0 x1) (b := 65) ak_84 dX12_isAboard_64 hs rfl rfl ?_
  refine x_aload_n (i := 0) (b := 66) dX12_isAboard_65 rfl rfl rfl ?_
  refine x_getL (j := 0) (t := (73, 0, true)) (b := 69) fk_X12_50 dX12_isAboard_66 rfl hL rfl rfl rfl ?_
  refine x_iload_n (i := 2) (b := 70) dX12_isAboard_69 rfl rfl rfl ?_
  obtain ⟨hs, hF⟩ := ck_e hF
  refine x_iald (v := gI h 73 0 x2) (b := 71) ak_73 dX12_isAboard_70 hs rfl rfl ?_
  refine x_icmp_lt (tgt := 107) (b := 74) dX12_isAboard_71 (by decide) rfl (fun hc => ?_) (fun hc => ?_)
  · replace hF := br_T hc hF
    refine x_iconst (n := 0) (b := 108) dX12_isAboard_107 (by decide) rfl ?_
    refine x_zreturn dX12_isAboard_108 rfl ⟨Nat.le_refl _, Nat.le_refl _⟩ (by decide) ?_
    cases hF
    exact ⟨rfl, rfl, hL⟩
  · replace hF := br_F hc hF
    refine x_aload_n (i := 0) (b := 75) dX12_isAboard_74 rfl rfl rfl ?_
    refine x_getL (j := 0) (t := (84, 0, true)) (b := 78) fk_X12_87 dX12_isAboard_75 rfl hL rfl rfl rfl ?_
    refine x_iload_n (i := 1) (b := 79) dX12_isAboard_78 rfl rfl rfl ?_
    obtain ⟨hs, hF⟩ := ck_e hF
    refine x_iald (v := gI h 84 0 x1) (b := 80) ak_84 dX12_isAboard_79 hs rfl rfl ?_
    refine x_aload_n (i := 0) (b := 81) dX12_isAboard_80 rfl rfl rfl ?_
    refine x_getL (j := 0) (t := (74, 0, true)) (b := 84) fk_X12_53 dX12_isAboard_81 rfl hL rfl rfl rfl ?_
    refine x_iload_n (i := 2) (b := 85) dX12_isAboard_84 rfl rfl rfl ?_
    obtain ⟨hs, hF⟩ := ck_e hF
    refine x_iald (v := gI h 74 0 x2) (b := 86) ak_74 dX12_isAboard_85 hs rfl rfl ?_
    refine x_icmp_gt (tgt := 107) (b := 89) dX12_isAboard_86 (by decide) rfl (fun hc => ?_) (fun hc => ?_)
    · replace hF := br_T hc hF
      refine x_iconst (n := 0) (b := 108) dX12_isAboard_107 (by decide) rfl ?_
      refine x_zreturn dX12_isAboard_108 rfl ⟨Nat.le_refl _, Nat.le_refl _⟩ (by decide) ?_
      cases hF
      exact ⟨rfl, rfl, hL⟩
    · replace hF := br_F hc hF
      refine x_aload_n (i := 0) (b := 90) dX12_isAboard_89 rfl rfl rfl ?_
      refine x_getL (j := 0) (t := (92, 0, true)) (b := 93) fk_X12_111 dX12_isAboard_90 rfl hL rfl rfl rfl ?_
      refine x_bipush (n := 9) (b := 95) dX12_isAboard_93 (by decide) rfl ?_
      refine x_iload_n (i := 1) (b := 96) dX12_isAboard_95 rfl rfl rfl ?_
      obtain ⟨hs, hF⟩ := ck_e hF
      refine x_imul (b := 97) dX12_isAboard_96 hs rfl ?_
      refine x_iload_n (i := 2) (b := 98) dX12_isAboard_97 rfl rfl rfl ?_
      obtain ⟨hs, hF⟩ := ck_e hF
      refine x_iadd (b := 99) dX12_isAboard_98 hs rfl ?_
      obtain ⟨hs, hF⟩ := ck_e hF
      refine x_zald (v := gI h 92 0 ((9 * x1) + x2)) (b := 100) ak_92 dX12_isAboard_99 hs rfl rfl ?_
      refine x_if_ne (tgt := 107) (b := 103) dX12_isAboard_100 (by decide) rfl (fun hc => ?_) (fun hc => ?_)
      · replace hF := br_F hc hF
        refine x_iconst (n := 0) (b := 108) dX12_isAboard_107 (by decide) rfl ?_
        refine x_zreturn dX12_isAboard_108 rfl ⟨Nat.le_refl _, Nat.le_refl _⟩ (by decide) ?_
        cases hF
        exact ⟨rfl, rfl, hL⟩
      · replace hF := br_T hc hF
        refine x_iconst (n := 1) (b := 104) dX12_isAboard_103 (by decide) rfl ?_
        refine x_goto (tgt := 108) dX12_isAboard_104 (by decide) ?_
        refine x_zreturn dX12_isAboard_108 rfl ⟨Nat.le_refl _, Nat.le_refl _⟩ (by decide) ?_
        cases hF
        exact ⟨rfl, rfl, hL⟩
set_option maxHeartbeats 4000000 in
set_option maxRecDepth 100000 in
theorem u_X12_isAboard (E : xE) (d : Nat) (r : Int × Hp) : ∀ n : Nat, (∀ (x1 x2 : Int) (h : Hp), Lay h → g_X12_isAboard n 0 [x1, x2] h = some r → X E mX12_isAboard (d + 2) (0, 0) (0, 0) 0 [some (xr 12 0), some (xi x1), some (xi x2)] [] h (PoI r)) ∧ (∀ (x1 x2 : Int) (h : Hp), Lay h → g_X12_isAboard n 1 [x1, x2] h = some r → X E mX12_isAboard (d + 2) (0, 0) (0, 0) 37 [some (xr 12 0), some (xi x1), some (xi x2)] [] h (PoI r)) ∧ (∀ (x1 x2 : Int) (h : Hp), Lay h → g_X12_isAboard n 2 [x1, x2] h = some r → X E mX12_isAboard (d + 2) (0, 0) (0, 0) 59 [some (xr 12 0), some (xi x1), some (xi x2)] [] h (PoI r)) := by
  intro n
  induction n with
  | zero => exact ⟨fun _ _ _ _ hF => no_e (r := r) hF, fun _ _ _ _ hF => no_e (r := r) hF, fun _ _ _ _ hF => no_e (r := r) hF⟩
  | succ n ih => exact ⟨fun x1 x2 h hL hF => t_X12_isAboard_0 E d (g_X12_isAboard n) r ih.2.1 x1 x2 h hL hF, fun x1 x2 h hL hF => t_X12_isAboard_1 E d (g_X12_isAboard n) r ih.2.2 x1 x2 h hL hF, fun x1 x2 h hL hF => t_X12_isAboard_2 E d (g_X12_isAboard n) r  x1 x2 h hL hF⟩
theorem c_X12_isAboard (d : Nat) (x1 x2 : Int) (h : Hp) (r : Int × Hp) (hL : Lay h) (hF : f_X12_isAboard x1 x2 h = some r) : Sp mX12_isAboard (d + 2) (0, 0) [xr 12 0, xi x1, xi x2] h (PoI r) :=
  sp_of (by decide) rfl (Nat.le_of_ble_eq_true rfl) (ls := [some (xr 12 0), some (xi x1), some (xi x2)]) rfl (fun E _ => (u_X12_isAboard E d r FU).1 x1 x2 h hL hF)
theorem dX12_knot_0 : decode cX12_knot 0 = .ok (.aload_n 0, 1) := by decide +kernel
theorem dX12_knot_1 : decode cX12_knot 1 = .ok (.getfield 247, 3) := by decide +kernel
theorem dX12_knot_4 : decode cX12_knot 4 = .ok (.ifCond .eq 4, 3) := by decide +kernel
theorem dX12_knot_7 : decode cX12_knot 7 = .ok (.return_, 1) := by decide +kernel
theorem dX12_knot_8 : decode cX12_knot 8 = .ok (.aload_n 0, 1) := by decide +kernel
theorem dX12_knot_9 : decode cX12_knot 9 = .ok (.getfield 327, 3) := by decide +kernel
theorem dX12_knot_12 : decode cX12_knot 12 = .ok (.bipush 64, 2) := by decide +kernel
theorem dX12_knot_14 : decode cX12_knot 14 = .ok (.if_icmp .ne 11, 3) := by decide +kernel
theorem dX12_knot_17 : decode cX12_knot 17 = .ok (.aload_n 0, 1) := by decide +kernel
theorem dX12_knot_18 : decode cX12_knot 18 = .ok (.iconst 2, 1) := by decide +kernel
theorem dX12_knot_19 : decode cX12_knot 19 = .ok (.invokevirtual 256, 3) := by decide +kernel
theorem dX12_knot_22 : decode cX12_knot 22 = .ok (.goto 13, 3) := by decide +kernel
theorem dX12_knot_25 : decode cX12_knot 25 = .ok (.aload_n 0, 1) := by decide +kernel
theorem dX12_knot_26 : decode cX12_knot 26 = .ok (.dup, 1) := by decide +kernel
theorem dX12_knot_27 : decode cX12_knot 27 = .ok (.getfield 327, 3) := by decide +kernel
theorem dX12_knot_30 : decode cX12_knot 30 = .ok (.iconst 1, 1) := by decide +kernel
theorem dX12_knot_31 : decode cX12_knot 31 = .ok (.iadd, 1) := by decide +kernel
theorem dX12_knot_32 : decode cX12_knot 32 = .ok (.putfield 327, 3) := by decide +kernel
theorem dX12_knot_35 : decode cX12_knot 35 = .ok (.return_, 1) := by decide +kernel
noncomputable def b_X12_knot_0 (rec : Rk) (h : Hp) : Option (Int × Hp) :=
  if (gI h 12 0 32) = 0 then (
    if (gI h 12 0 37) = 64 then (
      bd (f_X12_wrong 2 h) fun v1 h2 =>
      some (0, h2)
    ) else (
      ck (-2147483648 ≤ (gI h 12 0 37) + 1 ∧ (gI h 12 0 37) + 1 < 2147483648) <|
      lt (sI h 12 0 37 ((gI h 12 0 37) + 1)) fun h3 =>
      some (0, h3)
    )
  ) else (
    some (0, h)
  )
noncomputable def g_X12_knot (n : Nat) : Rk := Nat.rec (motive := fun _ => Rk) (fun _ _ _ => none) (fun _ rec k l h => if k = 0 then b_X12_knot_0 rec  h else none) n
noncomputable def f_X12_knot (h : Hp) : Option (Int × Hp) := g_X12_knot FU 0 [] h
set_option maxHeartbeats 4000000 in
set_option maxRecDepth 100000 in
theorem t_X12_knot_0 (E : xE) (d : Nat) (rec : Rk) (r : Int × Hp) (h : Hp) (hL : Lay h) (hF : b_X12_knot_0 rec  h = some r) : X E mX12_knot (d + 2) (0, 0) (0, 0) 0 [some (xr 12 0)] [] h (PoV r) := by
  unfold b_X12_knot_0 at hF
  refine x_aload_n (i := 0) (b := 1) dX12_knot_0 rfl rfl rfl ?_
  refine x_getI (v := gI h 12 0 32) (b := 4) fk_X12_247 dX12_knot_1 (by decide) rfl rfl ?_
  refine x_if_eq (tgt := 8) (b := 7) dX12_knot_4 (by decide) rfl (fun hc => ?_) (fun hc => ?_)
  · replace hF := br_T hc hF
    refine x_aload_n (i := 0) (b := 9) dX12_knot_8 rfl rfl rfl ?_
    refine x_getI (v := gI h 12 0 37) (b := 12) fk_X12_327 dX12_knot_9 (by decide) rfl rfl ?_
    refine x_bipush (n := 64) (b := 14) dX12_knot_12 (by decide) rfl ?_
    refine x_icmp_ne (tgt := 25) (b := 17) dX12_knot_14 (by decide) rfl (fun hc => ?_) (fun hc => ?_)
    · replace hF := br_F hc hF
      refine x_aload_n (i := 0) (b := 26) dX12_knot_25 rfl rfl rfl ?_
      refine x_dup (b := 27) dX12_knot_26 rfl rfl ?_
      refine x_getI (v := gI h 12 0 37) (b := 30) fk_X12_327 dX12_knot_27 (by decide) rfl rfl ?_
      refine x_iconst (n := 1) (b := 31) dX12_knot_30 (by decide) rfl ?_
      obtain ⟨hs, hF⟩ := ck_e hF
      refine x_iadd (b := 32) dX12_knot_31 hs rfl ?_
      refine x_putI (b := 35) fk_X12_327 dX12_knot_32 rfl rfl 37 rfl ?_
      obtain ⟨h3, e_h3, hF⟩ := lt_e hF
      refine x_hp (h2 := h3) e_h3 ?_
      replace hL : Lay h3 := by rw [← e_h3]; exact hL
      refine x_return dX12_knot_35 rfl ⟨Nat.le_refl _, Nat.le_refl _⟩ ?_
      cases hF
      exact ⟨rfl, rfl, hL⟩
    · replace hF := br_T hc hF
      refine x_aload_n (i := 0) (b := 18) dX12_knot_17 rfl rfl rfl ?_
      refine x_iconst (n := 2) (b := 19) dX12_knot_18 (by decide) rfl ?_
      obtain ⟨v1, h2, hq, hF⟩ := bd_e hF
      refine x_callV (as := [xi 2]) (rest := []) (b := 22) (c_X12_wrong d 2 h _ hL hq) dX12_knot_19 cw_X12_256 ⟨_, _, rfl, Nat.le_of_ble_eq_true rfl⟩ rfl rfl (Nat.le_of_ble_eq_true rfl) ⟨Nat.le_refl _, Nat.le_refl _⟩ rfl (fun rv hh hp _ => ?_)
      obtain ⟨rfl, rfl, hL⟩ := hp
      refine x_goto (tgt := 35) dX12_knot_22 (by decide) ?_
      refine x_return dX12_knot_35 rfl ⟨Nat.le_refl _, Nat.le_refl _⟩ ?_
      cases hF
      exact ⟨rfl, rfl, hL⟩
  · replace hF := br_F hc hF
    refine x_return dX12_knot_7 rfl ⟨Nat.le_refl _, Nat.le_refl _⟩ ?_
    cases hF
    exact ⟨rfl, rfl, hL⟩
set_option maxHeartbeats 4000000 in
set_option maxRecDepth 100000 in
theorem u_X12_knot (E : xE) (d : Nat) (r : Int × Hp) : ∀ n : Nat, (∀ (h : Hp), Lay h → g_X12_knot n 0 [] h = some r → X E mX12_knot (d + 2) (0, 0) (0, 0) 0 [some (xr 12 0)] [] h (PoV r)) := by
  intro n
  induction n with
  | zero => exact fun _ _ hF => no_e (r := r) hF
  | succ n ih => exact fun h hL hF => t_X12_knot_0 E d (g_X12_knot n) r   h hL hF
theorem c_X12_knot (d : Nat) (h : Hp) (r : Int × Hp) (hL : Lay h) (hF : f_X12_knot  h = some r) : Sp mX12_knot (d + 2) (0, 0) [xr 12 0] h (PoV r) :=
  sp_of (by decide) rfl (Nat.le_of_ble_eq_true rfl) (ls := [some (xr 12 0)]) rfl (fun E _ => (u_X12_knot E d r FU)  h hL hF)
theorem dX12_layFar_0 : decode cX12_layFar 0 = .ok (.iconst 0, 1) := by decide +kernel
theorem dX12_layFar_1 : decode cX12_layFar 1 = .ok (.istore_n 1, 1) := by decide +kernel
theorem dX12_layFar_2 : decode cX12_layFar 2 = .ok (.iload_n 1, 1) := by decide +kernel
theorem dX12_layFar_3 : decode cX12_layFar 3 = .ok (.aload_n 0, 1) := by decide +kernel
theorem dX12_layFar_4 : decode cX12_layFar 4 = .ok (.getfield 84, 3) := by decide +kernel
theorem dX12_layFar_7 : decode cX12_layFar 7 = .ok (.arraylength, 1) := by decide +kernel
theorem dX12_layFar_8 : decode cX12_layFar 8 = .ok (.if_icmp .ge 17, 3) := by decide +kernel
theorem dX12_layFar_11 : decode cX12_layFar 11 = .ok (.aload_n 0, 1) := by decide +kernel
theorem dX12_layFar_12 : decode cX12_layFar 12 = .ok (.getfield 84, 3) := by decide +kernel
theorem dX12_layFar_15 : decode cX12_layFar 15 = .ok (.iload_n 1, 1) := by decide +kernel
theorem dX12_layFar_16 : decode cX12_layFar 16 = .ok (.bipush 99, 2) := by decide +kernel
theorem dX12_layFar_18 : decode cX12_layFar 18 = .ok (.iastore, 1) := by decide +kernel
theorem dX12_layFar_19 : decode cX12_layFar 19 = .ok (.iinc 1 1, 3) := by decide +kernel
theorem dX12_layFar_22 : decode cX12_layFar 22 = .ok (.goto (-20), 3) := by decide +kernel
theorem dX12_layFar_25 : decode cX12_layFar 25 = .ok (.iconst 0, 1) := by decide +kernel
theorem dX12_layFar_26 : decode cX12_layFar 26 = .ok (.istore_n 1, 1) := by decide +kernel
theorem dX12_layFar_27 : decode cX12_layFar 27 = .ok (.iload_n 1, 1) := by decide +kernel
theorem dX12_layFar_28 : decode cX12_layFar 28 = .ok (.aload_n 0, 1) := by decide +kernel
theorem dX12_layFar_29 : decode cX12_layFar 29 = .ok (.invokevirtual 374, 3) := by decide +kernel
theorem dX12_layFar_32 : decode cX12_layFar 32 = .ok (.if_icmp .ge 165, 3) := by decide +kernel
theorem dX12_layFar_35 : decode cX12_layFar 35 = .ok (.aload_n 0, 1) := by decide +kernel
theorem dX12_layFar_36 : decode cX12_layFar 36 = .ok (.getfield 16, 3) := by decide +kernel
theorem dX12_layFar_39 : decode cX12_layFar 39 = .ok (.iload_n 1, 1) := by decide +kernel
theorem dX12_layFar_40 : decode cX12_layFar 40 = .ok (.baload, 1) := by decide +kernel
theorem dX12_layFar_41 : decode cX12_layFar 41 = .ok (.ifCond .eq 6, 3) := by decide +kernel
theorem dX12_layFar_44 : decode cX12_layFar 44 = .ok (.goto 147, 3) := by decide +kernel
theorem dX12_layFar_47 : decode cX12_layFar 47 = .ok (.aload_n 0, 1) := by decide +kernel
theorem dX12_layFar_48 : decode cX12_layFar 48 = .ok (.getfield 84, 3) := by decide +kernel
theorem dX12_layFar_51 : decode cX12_layFar 51 = .ok (.bipush 64, 2) := by decide +kernel
theorem dX12_layFar_53 : decode cX12_layFar 53 = .ok (.iload_n 1, 1) := by decide +kernel
theorem dX12_layFar_54 : decode cX12_layFar 54 = .ok (.imul, 1) := by decide +kernel
theorem dX12_layFar_55 : decode cX12_layFar 55 = .ok (.iload_n 1, 1) := by decide +kernel
theorem dX12_layFar_56 : decode cX12_layFar 56 = .ok (.iadd, 1) := by decide +kernel
theorem dX12_layFar_57 : decode cX12_layFar 57 = .ok (.iconst 0, 1) := by decide +kernel
theorem dX12_layFar_58 : decode cX12_layFar 58 = .ok (.iastore, 1) := by decide +kernel
theorem dX12_layFar_59 : decode cX12_layFar 59 = .ok (.iconst 1, 1) := by decide +kernel
theorem dX12_layFar_60 : decode cX12_layFar 60 = .ok (.istore_n 2, 1) := by decide +kernel
theorem dX12_layFar_61 : decode cX12_layFar 61 = .ok (.iconst 0, 1) := by decide +kernel
theorem dX12_layFar_62 : decode cX12_layFar 62 = .ok (.istore_n 3, 1) := by decide +kernel
theorem dX12_layFar_63 : decode cX12_layFar 63 = .ok (.iload_n 2, 1) := by decide +kernel
theorem dX12_layFar_64 : decode cX12_layFar 64 = .ok (.ifCond .eq 127, 3) := by decide +kernel
theorem dX12_layFar_67 : decode cX12_layFar 67 = .ok (.iconst 0, 1) := by decide +kernel
theorem dX12_layFar_68 : decode cX12_layFar 68 = .ok (.istore_n 2, 1) := by decide +kernel
theorem dX12_layFar_69 : decode cX12_layFar 69 = .ok (.iconst 0, 1) := by decide +kernel
theorem dX12_layFar_70 : decode cX12_layFar 70 = .ok (.istore 4, 2) := by decide +kernel
theorem dX12_layFar_72 : decode cX12_layFar 72 = .ok (.iload 4, 2) := by decide +kernel
theorem dX12_layFar_74 : decode cX12_layFar 74 = .ok (.aload_n 0, 1) := by decide +kernel
theorem dX12_layFar_75 : decode cX12_layFar 75 = .ok (.invokevirtual 374, 3) := by decide +kernel
theorem dX12_layFar_78 : decode cX12_layFar 78 = .ok (.if_icmp .ge 107, 3) := by decide +kernel
theorem dX12_layFar_81 : decode cX12_layFar 81 = .ok (.aload_n 0, 1) := by decide +kernel
theorem dX12_layFar_82 : decode cX12_layFar 82 = .ok (.getfield 84, 3) := by decide +kernel
theorem dX12_layFar_85 : decode cX12_layFar 85 = .ok (.bipush 64, 2) := by decide +kernel
theorem dX12_layFar_87 : decode cX12_layFar 87 = .ok (.iload_n 1, 1) := by decide +kernel
theorem dX12_layFar_88 : decode cX12_layFar 88 = .ok (.imul, 1) := by decide +kernel
theorem dX12_layFar_89 : decode cX12_layFar 89 = .ok (.iload 4, 2) := by decide +kernel
theorem dX12_layFar_91 : decode cX12_layFar 91 = .ok (.iadd, 1) := by decide +kernel
theorem dX12_layFar_92 : decode cX12_layFar 92 = .ok (.iaload, 1) := by decide +kernel
theorem dX12_layFar_93 : decode cX12_layFar 93 = .ok (.iload_n 3, 1) := by decide +kernel
theorem dX12_layFar_94 : decode cX12_layFar 94 = .ok (.if_icmp .eq 6, 3) := by decide +kernel
theorem dX12_layFar_97 : decode cX12_layFar 97 = .ok (.goto 82, 3) := by decide +kernel
theorem dX12_layFar_100 : decode cX12_layFar 100 = .ok (.iconst 0, 1) := by decide +kernel
theorem dX12_layFar_101 : decode cX12_layFar 101 = .ok (.istore 5, 2) := by decide +kernel
theorem dX12_layFar_103 : decode cX12_layFar 103 = .ok (.iload 5, 2) := by decide +kernel
theorem dX12_layFar_105 : decode cX12_layFar 105 = .ok (.iconst 4, 1) := by decide +kernel
theorem dX12_layFar_106 : decode cX12_layFar 106 = .ok (.if_icmp .ge 73, 3) := by decide +kernel
theorem dX12_layFar_109 : decode cX12_layFar 109 = .ok (.aload_n 0, 1) := by decide +kernel
theorem dX12_layFar_110 : decode cX12_layFar 110 = .ok (.iload 4, 2) := by decide +kernel
theorem dX12_layFar_112 : decode cX12_layFar 112 = .ok (.iload 5, 2) := by decide +kernel
theorem dX12_layFar_114 : decode cX12_layFar 114 = .ok (.invokevirtual 377, 3) := by decide +kernel
theorem dX12_layFar_117 : decode cX12_layFar 117 = .ok (.istore 6, 2) := by decide +kernel
theorem dX12_layFar_119 : decode cX12_layFar 119 = .ok (.iload 6, 2) := by decide +kernel
theorem dX12_layFar_121 : decode cX12_layFar 121 = .ok (.iconst (-1), 1) := by decide +kernel
theorem dX12_layFar_122 : decode cX12_layFar 122 = .ok (.if_icmp .eq 51, 3) := by decide +kernel
theorem dX12_layFar_125 : decode cX12_layFar 125 = .ok (.aload_n 0, 1) := by decide +kernel
theorem dX12_layFar_126 : decode cX12_layFar 126 = .ok (.getfield 16, 3) := by decide +kernel
theorem dX12_layFar_129 : decode cX12_layFar 129 = .ok (.iload 6, 2) := by decide +kernel
theorem dX12_layFar_131 : decode cX12_layFar 131 = .ok (.baload, 1) := by decide +kernel
theorem dX12_layFar_132 : decode cX12_layFar 132 = .ok (.ifCond .ne 41, 3) := by decide +kernel
theorem dX12_layFar_135 : decode cX12_layFar 135 = .ok (.aload_n 0, 1) := by decide +kernel
theorem dX12_layFar_136 : decode cX12_layFar 136 = .ok (.getfield 84, 3) := by decide +kernel
theorem dX12_layFar_139 : decode cX12_layFar 139 = .ok (.bipush 64, 2) := by decide +kernel
theorem dX12_layFar_141 : decode cX12_layFar 141 = .ok (.iload_n 1, 1) := by decide +kernel
theorem dX12_layFar_142 : decode cX12_layFar 142 = .ok (.imul, 1) := by decide +kernel
theorem dX12_layFar_143 : decode cX12_layFar 143 = .ok (.iload 6, 2) := by decide +kernel
theorem dX12_layFar_145 : decode cX12_layFar 145 = .ok (.iadd, 1) := by decide +kernel
theorem dX12_layFar_146 : decode cX12_layFar 146 = .ok (.iaload, 1) := by decide +kernel
theorem dX12_layFar_147 : decode cX12_layFar 147 = .ok (.iload_n 3, 1) := by decide +kernel
theorem dX12_layFar_148 : decode cX12_layFar 148 = .ok (.iconst 1, 1) := by decide +kernel
theorem dX12_layFar_149 : decode cX12_layFar 149 = .ok (.iadd, 1) := by decide +kernel
theorem dX12_layFar_150 : decode cX12_layFar 150 = .ok (.if_icmp .gt 6, 3) := by decide +kernel
theorem dX12_layFar_153 : decode cX12_layFar 153 = .ok (.goto 20, 3) := by decide +kernel
theorem dX12_layFar_156 : decode cX12_layFar 156 = .ok (.aload_n 0, 1) := by decide +kernel
theorem dX12_layFar_157 : decode cX12_layFar 157 = .ok (.getfield 84, 3) := by decide +kernel
theorem dX12_layFar_160 : decode cX12_layFar 160 = .ok (.bipush 64, 2) := by decide +kernel
theorem dX12_layFar_162 : decode cX12_layFar 162 = .ok (.iload_n 1, 1) := by decide +kernel
theorem dX12_layFar_163 : decode cX12_layFar 163 = .ok (.imul, 1) := by decide +kernel
theorem dX12_layFar_164 : decode cX12_layFar 164 = .ok (.iload 6, 2) := by decide +kernel
theorem dX12_layFar_166 : decode cX12_layFar 166 = .ok (.iadd, 1) := by decide +kernel
theorem dX12_layFar_167 : decode cX12_layFar 167 = .ok (.iload_n 3, 1) := by decide +kernel
theorem dX12_layFar_168 : decode cX12_layFar 168 = .ok (.iconst 1, 1) := by decide +kernel
theorem dX12_layFar_169 : decode cX12_layFar 169 = .ok (.iadd, 1) := by decide +kernel
theorem dX12_layFar_170 : decode cX12_layFar 170 = .ok (.iastore, 1) := by decide +kernel
theorem dX12_layFar_171 : decode cX12_layFar 171 = .ok (.iconst 1, 1) := by decide +kernel
theorem dX12_layFar_172 : decode cX12_layFar 172 = .ok (.istore_n 2, 1) := by decide +kernel
theorem dX12_layFar_173 : decode cX12_layFar 173 = .ok (.iinc 5 1, 3) := by decide +kernel
theorem dX12_layFar_176 : decode cX12_layFar 176 = .ok (.goto (-73), 3) := by decide +kernel
theorem dX12_layFar_179 : decode cX12_layFar 179 = .ok (.iinc 4 1, 3) := by decide +kernel
theorem dX12_layFar_182 : decode cX12_layFar 182 = .ok (.goto (-110), 3) := by decide +kernel
theorem dX12_layFar_185 : decode cX12_layFar 185 = .ok (.iinc 3 1, 3) := by decide +kernel
theorem dX12_layFar_188 : decode cX12_layFar 188 = .ok (.goto (-125), 3) := by decide +kernel
theorem dX12_layFar_191 : decode cX12_layFar 191 = .ok (.iinc 1 1, 3) := by decide +kernel
theorem dX12_layFar_194 : decode cX12_layFar 194 = .ok (.goto (-167), 3) := by decide +kernel
theorem dX12_layFar_197 : decode cX12_layFar 197 = .ok (.return_, 1) := by decide +kernel
noncomputable def b_X12_layFar_0 (rec : Rk) (h : Hp) : Option (Int × Hp) :=
  rec 1 [0] h
noncomputable def b_X12_layFar_1 (rec : Rk) (x1 : Int) (h : Hp) : Option (Int × Hp) :=
  if 4096 ≤ x1 then (
    rec 2 [0] h
  ) else (
    ck (0 ≤ x1 ∧ x1 < 4096) <|
    lt (sI h 83 0 x1 99) fun h1 =>
    ck (-2147483648 ≤ x1 + 1 ∧ x1 + 1 < 2147483648) <|
    rec 1 [x1 + 1] h1
  )
noncomputable def b_X12_layFar_2 (rec : Rk) (x1 : Int) (h : Hp) : Option (Int × Hp) :=
  bd (f_X12_cells h) fun v1 h2 =>
  if v1 ≤ x1 then (
    some (0, h2)
  ) else (
    ck (0 ≤ x1 ∧ x1 < 128) <|
    if (gI h2 62 0 x1) = 0 then (
      ck (-2147483648 ≤ 64 * x1 ∧ 64 * x1 < 2147483648) <|
      ck (-2147483648 ≤ (64 * x1) + x1 ∧ (64 * x1) + x1 < 2147483648) <|
      ck (0 ≤ ((64 * x1) + x1) ∧ ((64 * x1) + x1) < 4096) <|
      lt (sI h2 83 0 ((64 * x1) + x1) 0) fun h3 =>
      rec 3 [x1, 1, 0] h3
    ) else (
      rec 8 [x1] h2
    )
  )
noncomputable def b_X12_layFar_3 (rec : Rk) (x1 x2 x3 : Int) (h : Hp) : Option (Int × Hp) :=
  if x2 = 0 then (
    rec 8 [x1] h
  ) else (
    rec 4 [x1, 0, x3, 0] h
  )
noncomputable def b_X12_layFar_4 (rec : Rk) (x1 x2 x3 x4 : Int) (h : Hp) : Option (Int × Hp) :=
  bd (f_X12_cells h) fun v1 h2 =>
  if v1 ≤ x4 then (
    ck (-2147483648 ≤ x3 + 1 ∧ x3 + 1 < 2147483648) <|
    rec 3 [x1, x2, x3 + 1] h2
  ) else (
    ck (-2147483648 ≤ 64 * x1 ∧ 64 * x1 < 2147483648) <|
    ck (-2147483648 ≤ (64 * x1) + x4 ∧ (64 * x1) + x4 < 2147483648) <|
    ck (0 ≤ ((64 * x1) + x4) ∧ ((64 * x1) + x4) < 4096) <|
    if (gI h2 83 0 ((64 * x1) + x4)) = x3 then (
      rec 5 [x1, x2, x3, x4, 0] h2
    ) else (
      rec 7 [x1, x2, x3, x4] h2
    )
  )
noncomputable def b_X12_layFar_5 (rec : Rk) (x1 x2 x3 x4 x5 : Int) (h : Hp) : Option (Int × Hp) :=
  if 4 ≤ x5 then (
    rec 7 [x1, x2, x3, x4] h
  ) else (
    bd (f_X12_leads x4 x5 h) fun v1 h2 =>
    if v1 = (-1) then (
      rec 6 [x1, x2, x3, x4, x5] h2
    ) else (
      ck (0 ≤ v1 ∧ v1 < 128) <|
      if (gI h2 62 0 v1) = 0 then (
        ck (-2147483648 ≤ 64 * x1 ∧ 64 * x1 < 2147483648) <|
        ck (-2147483648 ≤ (64 * x1) + v1 ∧ (64 * x1) + v1 < 2147483648) <|
        ck (0 ≤ ((64 * x1) + v1) ∧ ((64 * x1) + v1) < 4096) <|
        ck (-2147483648 ≤ x3 + 1 ∧ x3 + 1 < 2147483648) <|
        if (x3 + 1) < (gI h2 83 0 ((64 * x1) + v1)) then (
          ck (-2147483648 ≤ 64 * x1 ∧ 64 * x1 < 2147483648) <|
          ck (-2147483648 ≤ (64 * x1) + v1 ∧ (64 * x1) + v1 < 2147483648) <|
          ck (-2147483648 ≤ x3 + 1 ∧ x3 + 1 < 2147483648) <|
          ck (0 ≤ ((64 * x1) + v1) ∧ ((64 * x1) + v1) < 4096) <|
          lt (sI h2 83 0 ((64 * x1) + v1) (x3 + 1)) fun h3 =>
          rec 6 [x1, 1, x3, x4, x5] h3
        ) else (
          rec 6 [x1, x2, x3, x4, x5] h2
        )
      ) else (
        rec 6 [x1, x2, x3, x4, x5] h2
      )
    )
  )
noncomputable def b_X12_layFar_6 (rec : Rk) (x1 x2 x3 x4 x5 : Int) (h : Hp) : Option (Int × Hp) :=
  ck (-2147483648 ≤ x5 + 1 ∧ x5 + 1 < 2147483648) <|
  rec 5 [x1, x2, x3, x4, x5 + 1] h
noncomputable def b_X12_layFar_7 (rec : Rk) (x1 x2 x3 x4 : Int) (h : Hp) : Option (Int × Hp) :=
  ck (-2147483648 ≤ x4 + 1 ∧ x4 + 1 < 2147483648) <|
  rec 4 [x1, x2, x3, x4 + 1] h
noncomputable def b_X12_layFar_8 (rec : Rk) (x1 : Int) (h : Hp) : Option (Int × Hp) :=
  ck (-2147483648 ≤ x1 + 1 ∧ x1 + 1 < 2147483648) <|
  rec 2 [x1 + 1] h
noncomputable def g_X12_layFar (n : Nat) : Rk := Nat.rec (motive := fun _ => Rk) (fun _ _ _ => none) (fun _ rec k l h => if k = 0 then b_X12_layFar_0 rec  h else if k = 1 then b_X12_layFar_1 rec (l.getD 0 0) h else if k = 2 then b_X12_layFar_2 rec (l.getD 0 0) h else if k = 3 then b_X12_layFar_3 rec (l.getD 0 0) (l.getD 1 0) (l.getD 2 0) h else if k = 4 then b_X12_layFar_4 rec (l.getD 0 0) (l.getD 1 0) (l.getD 2 0) (l.getD 3 0) h else if k = 5 then b_X12_layFar_5 rec (l.getD 0 0) (l.getD 1 0) (l.getD 2 0) (l.getD 3 0) (l.getD 4 0) h else if k = 6 then b_X12_layFar_6 rec (l.getD 0 0) (l.getD 1 0) (l.getD 2 0) (l.getD 3 0) (l.getD 4 0) h else if k = 7 then b_X12_layFar_7 rec (l.getD 0 0) (l.getD 1 0) (l.getD 2 0) (l.getD 3 0) h else if k = 8 then b_X12_layFar_8 rec (l.getD 0 0) h else none) n
noncomputable def f_X12_layFar (h : Hp) : Option (Int × Hp) := g_X12_layFar FU 0 [] h
set_option maxHeartbeats 4000000 in
set_option maxRecDepth 100000 in
theorem t_X12_layFar_0 (E : xE) (d : Nat) (rec : Rk) (r : Int × Hp) (hr_2 : ∀ (x1 : Int) (h : Hp), Lay h → rec 1 [x1] h = some r → X E mX12_layFar (d + 2) (0, 0) (0, 0) 2 [some (xr 12 0), some (xi x1), none, none, none, none, none] [] h (PoV r)) (h : Hp) (hL : Lay h) (hF : b_X12_layFar_0 rec  h = some r) : X E mX12_layFar (d + 2) (0, 0) (0, 0) 0 [some (xr 12 0), none, none, none, none, none, none] [] h (PoV r) := by
  unfold b_X12_layFar_0 at hF
  refine x_iconst (n := 0) (b := 1) dX12_layFar_0 (by decide) rfl ?_
  refine x_istore_n (i := 1) (b := 2) (ls2 := [some (xr 12 0), some (xi 0), none, none, none, none, none]) dX12_layFar_1 rfl (Nat.le_of_ble_eq_true rfl) rfl rfl ?_
  exact x_dp (ls2 := [some (xr 12 0), some (xi 0), none, none, none, none, none]) ⟨rfl, rfl, trivial⟩ (hr_2 0 h hL hF)
set_option maxHeartbeats 4000000 in
set_option maxRecDepth 100000 in
theorem t_X12_layFar_1 (E : xE) (d : Nat) (rec : Rk) (r : Int × Hp) (hr_2 : ∀ (x1 : Int) (h : Hp), Lay h → rec 1 [x1] h = some r → X E mX12_layFar (d + 2) (0, 0) (0, 0) 2 [some (xr 12 0), some (xi x1), none, none, none, none, none] [] h (PoV r)) (hr_27 : ∀ (x1 : Int) (h : Hp), Lay h → rec 2 [x1] h = some r → X E mX12_layFar (d + 2) (0, 0) (0, 0) 27 [some (xr 12 0), some (xi x1), none, none, none, none, none] [] h (PoV r)) (x1 : Int) (h : Hp) (hL : Lay h) (hF : b_X12_layFar_1 rec x1 h = some r) : X E mX12_layFar (d + 2) (0, 0) (0, 0) 2 [some (xr 12 0), some (xi x1), none, none, none, none, none] [] h (PoV r) := by
  unfold b_X12_layFar_1 at hF
  refine x_iload_n (i := 1) (b := 3) dX12_layFar_2 rfl rfl rfl ?_
  refine x_aload_n (i := 0) (b := 4) dX12_layFar_3 rfl rfl rfl ?_
  refine x_getL (j := 0) (t := (83, 0, true)) (b := 7) fk_X12_84 dX12_layFar_4 rfl hL rfl rfl rfl ?_
  refine x_alen (kind := 0) (ct := 0) (b := 8) ak_83 (by decide) dX12_layFar_7 rfl ?_
  refine x_eq (y := 4096) rfl ?_
  refine x_icmp_ge (tgt := 25) (b := 11) dX12_layFar_8 (by decide) rfl (fun hc => ?_) (fun hc => ?_)
  · replace hF := br_T hc hF
    refine x_iconst (n := 0) (b := 26) dX12_layFar_25 (by decide) rfl ?_
    refine x_istore_n (i := 1) (b := 27) (ls2 := [some (xr 12 0), some (xi 0), none, none, none, none, none]) dX12_layFar_26 rfl (Nat.le_of_ble_eq_true rfl) rfl rfl ?_
    exact x_dp (ls2 := [some (xr 12 0), some (xi 0), none, none, none, none, none]) ⟨rfl, rfl, trivial⟩ (hr_27 0 h hL hF)
  · replace hF := br_F hc hF
    refine x_aload_n (i := 0) (b := 12) dX12_layFar_11 rfl rfl rfl ?_
    refine x_getL (j := 0) (t := (83, 0, true)) (b := 15) fk_X12_84 dX12_layFar_12 rfl hL rfl rfl rfl ?_
    refine x_iload_n (i := 1) (b := 16) dX12_layFar_15 rfl rfl rfl ?_
    refine x_bipush (n := 99) (b := 18) dX12_layFar_16 (by decide) rfl ?_
    obtain ⟨hs, hF⟩ := ck_e hF
    have hs1 := hs
    refine x_iast (b := 19) ak_83 dX12_layFar_18 hs1 rfl ?_
    obtain ⟨h1, e_h1, hF⟩ := lt_e hF
    refine x_hp (h2 := h1) e_h1 ?_
    replace hL : Lay h1 := by rw [← e_h1]; exact hL
    obtain ⟨hs, hF⟩ := ck_e hF
    refine x_iinc (i := 1) (b := 22) (ls2 := [some (xr 12 0), some (xi (x1 + 1)), none, none, none, none, none]) dX12_layFar_19 rfl (Nat.le_of_ble_eq_true rfl) hs rfl rfl ?_
    refine x_goto (tgt := 2) dX12_layFar_22 (by decide) ?_
    exact x_dp (ls2 := [some (xr 12 0), some (xi (x1 + 1)), none, none, none, none, none]) ⟨rfl, rfl, trivial⟩ (hr_2 (x1 + 1) h1 hL hF)
set_option maxHeartbeats 4000000 in
set_option maxRecDepth 100000 in
theorem t_X12_layFar_2 (E : xE) (d : Nat) (rec : Rk) (r : Int × Hp) (hr_63 : ∀ (x1 x2 x3 : Int) (h : Hp), Lay h → rec 3 [x1, x2, x3] h = some r → X E mX12_layFar (d + 2) (0, 0) (0, 0) 63 [some (xr 12 0), some (xi x1), some (xi x2), some (xi x3), none, none, none] [] h (PoV r)) (hr_191 : ∀ (x1 : Int) (h : Hp), Lay h → rec 8 [x1] h = some r → X E mX12_layFar (d + 2) (0, 0) (0, 0) 191 [some (xr 12 0), some (xi x1), none, none, none, none, none] [] h (PoV r)) (x1 : Int) (h : Hp) (hL : Lay h) (hF : b_X12_layFar_2 rec x1 h = some r) : X E mX12_layFar (d + 2) (0, 0) (0, 0) 27 [some (xr 12 0), some (xi x1), none, none, none, none, none] [] h (PoV r) := by
  unfold b_X12_layFar_2 at hF
  refine x_iload_n (i := 1) (b := 28) dX12_layFar_27 rfl rfl rfl ?_
  refine x_aload_n (i := 0) (b := 29) dX12_layFar_28 rfl rfl rfl ?_
  obtain ⟨v1, h2, hq, hF⟩ := bd_e hF
  refine x_callV (as := []) (rest := [xi x1]) (b := 32) (c_X12_cells d h _ hL hq) dX12_layFar_29 cw_X12_374 ⟨_, _, rfl, Nat.le_of_ble_eq_true rfl⟩ rfl rfl (Nat.le_of_ble_eq_true rfl) ⟨Nat.le_refl _, Nat.le_refl _⟩ rfl (fun rv hh hp _ => ?_)
  obtain ⟨rfl, rfl, hL⟩ := hp
  refine x_icmp_ge (tgt := 197) (b := 35) dX12_layFar_32 (by decide) rfl (fun hc => ?_) (fun hc => ?_)
  · replace hF := br_T hc hF
    refine x_return dX12_layFar_197 rfl ⟨Nat.le_refl _, Nat.le_refl _⟩ ?_
    cases hF
    exact ⟨rfl, rfl, hL⟩
  · replace hF := br_F hc hF
    refine x_aload_n (i := 0) (b := 36) dX12_layFar_35 rfl rfl rfl ?_
    refine x_getL (j := 0) (t := (62, 0, true)) (b := 39) fk_X12_16 dX12_layFar_36 rfl hL rfl rfl rfl ?_
    refine x_iload_n (i := 1) (b := 40) dX12_layFar_39 rfl rfl rfl ?_
    obtain ⟨hs, hF⟩ := ck_e hF
    refine x_zald (v := gI h2 62 0 x1) (b := 41) ak_62 dX12_layFar_40 hs rfl rfl ?_
    refine x_if_eq (tgt := 47) (b := 44) dX12_layFar_41 (by decide) rfl (fun hc => ?_) (fun hc => ?_)
    · replace hF := br_T hc hF
      refine x_aload_n (i := 0) (b := 48) dX12_layFar_47 rfl rfl rfl ?_
      refine x_getL (j := 0) (t := (83, 0, true)) (b := 51) fk_X12_84 dX12_layFar_48 rfl hL rfl rfl rfl ?_
      refine x_bipush (n := 64) (b := 53) dX12_layFar_51 (by decide) rfl ?_
      refine x_iload_n (i := 1) (b := 54) dX12_layFar_53 rfl rfl rfl ?_
      obtain ⟨hs, hF⟩ := ck_e hF
      refine x_imul (b := 55) dX12_layFar_54 hs rfl ?_
      refine x_iload_n (i := 1) (b := 56) dX12_layFar_55 rfl rfl rfl ?_
      obtain ⟨hs, hF⟩ := ck_e hF
      refine x_iadd (b := 57) dX12_layFar_56 hs rfl ?_
      refine x_iconst (n := 0) (b := 58) dX12_layFar_57 (by decide) rfl ?_
      obtain ⟨hs, hF⟩ := ck_e hF
      have hs1 := hs
      refine x_iast (b := 59) ak_83 dX12_layFar_58 hs1 rfl ?_
      obtain ⟨h3, e_h3, hF⟩ := lt_e hF
      refine x_hp (h2 := h3) e_h3 ?_
      replace hL : Lay h3 := by rw [← e_h3]; exact hL
      refine x_iconst (n := 1) (b := 60) dX12_layFar_59 (by decide) rfl ?_
      refine x_istore_n (i := 2) (b := 61) (ls2 := [some (xr 12 0), some (xi x1), some (xi 1), none, none, none, none]) dX12_layFar_60 rfl (Nat.le_of_ble_eq_true rfl) rfl rfl ?_
      refine x_iconst (n := 0) (b := 62) dX12_layFar_61 (by decide) rfl ?_
      refine x_istore_n (i := 3) (b := 63) (ls2 := [some (xr 12 0), some (xi x1), some (xi 1), some (xi 0), none, none, none]) dX12_layFar_62 rfl (Nat.le_of_ble_eq_true rfl) rfl rfl ?_
      exact x_dp (ls2 := [some (xr 12 0), some (xi x1), some (xi 1), some (xi 0), none, none, none]) ⟨rfl, rfl, rfl, rfl, trivial⟩ (hr_63 x1 1 0 h3 hL hF)
    · replace hF := br_F hc hF
      refine x_goto (tgt := 191) dX12_layFar_44 (by decide) ?_
      exact x_dp (ls2 := [some (xr 12 0), some (xi x1), none, none, none, none, none]) ⟨rfl, rfl, trivial⟩ (hr_191 x1 h2 hL hF)
set_option maxHeartbeats 4000000 in
set_option maxRecDepth 100000 in
theorem t_X12_layFar_3 (E : xE) (d : Nat) (rec : Rk) (r : Int × Hp) (hr_72 : ∀ (x1 x2 x3 x4 : Int) (h : Hp), Lay h → rec 4 [x1, x2, x3, x4] h = some r → X E mX12_layFar (d + 2) (0, 0) (0, 0) 72 [some (xr 12 0), some (xi x1), some (xi x2), some (xi x3), some (xi x4), none, none] [] h (PoV r)) (hr_191 : ∀ (x1 : Int) (h : Hp), Lay h → rec 8 [x1] h = some r → X E mX12_layFar (d + 2) (0, 0) (0, 0) 191 [some (xr 12 0), some (xi x1), none, none, none, none, none] [] h (PoV r)) (x1 x2 x3 : Int) (h : Hp) (hL : Lay h) (hF : b_X12_layFar_3 rec x1 x2 x3 h = some r) : X E mX12_layFar (d + 2) (0, 0) (0, 0) 63 [some (xr 12 0), some (xi x1), some (xi x2), some (xi x3), none, none, none] [] h (PoV r) := by
  unfold b_X12_layFar_3 at hF
  refine x_iload_n (i := 2) (b := 64) dX12_layFar_63 rfl rfl rfl ?_
  refine x_if_eq (tgt := 191) (b := 67) dX12_layFar_64 (by decide) rfl (fun hc => ?_) (fun hc => ?_)
  · replace hF := br_T hc hF
    exact x_dp (ls2 := [some (xr 12 0), some (xi x1), none, none, none, none, none]) ⟨rfl, rfl, trivial⟩ (hr_191 x1 h hL hF)
  · replace hF := br_F hc hF
    refine x_iconst (n := 0) (b := 68) dX12_layFar_67 (by decide) rfl ?_
    refine x_istore_n (i := 2) (b := 69) (ls2 := [some (xr 12 0), some (xi x1), some (xi 0), some (xi x3), none, none, none]) dX12_layFar_68 rfl (Nat.le_of_ble_eq_true rfl) rfl rfl ?_
    refine x_iconst (n := 0) (b := 70) dX12_layFar_69 (by decide) rfl ?_
    refine x_istore (i := 4) (b := 72) (ls2 := [some (xr 12 0), some (xi x1), some (xi 0), some (xi x3), some (xi 0), none, none]) dX12_layFar_70 (Nat.le_of_ble_eq_true rfl) rfl rfl ?_
    exact x_dp (ls2 := [some (xr 12 0), some (xi x1), some (xi 0), some (xi x3), some (xi 0), none, none]) ⟨rfl, rfl, rfl, rfl, rfl, trivial⟩ (hr_72 x1 0 x3 0 h hL hF)
set_option maxHeartbeats 4000000 in
set_option maxRecDepth 100000 in
theorem t_X12_layFar_4 (E : xE) (d : Nat) (rec : Rk) (r : Int × Hp) (hr_63 : ∀ (x1 x2 x3 : Int) (h : Hp), Lay h → rec 3 [x1, x2, x3] h = some r → X E mX12_layFar (d + 2) (0, 0) (0, 0) 63 [some (xr 12 0), some (xi x1), some (xi x2), some (xi x3), none, none, none] [] h (PoV r)) (hr_103 : ∀ (x1 x2 x3 x4 x5 : Int) (h : Hp), Lay h → rec 5 [x1, x2, x3, x4, x5] h = some r → X E mX12_layFar (d + 2) (0, 0) (0, 0) 103 [some (xr 12 0), some (xi x1), some (xi x2), some (xi x3), some (xi x4), some (xi x5), none] [] h (PoV r)) (hr_179 : ∀ (x1 x2 x3 x4 : Int) (h : Hp), Lay h → rec 7 [x1, x2, x3, x4] h = some r → X E mX12_layFar (d + 2) (0, 0) (0, 0) 179 [some (xr 12 0), some (xi x1), some (xi x2), some (xi x3), some (xi x4), none, none] [] h (PoV r)) (x1 x2 x3 x4 : Int) (h : Hp) (hL : Lay h) (hF : b_X12_layFar_4 rec x1 x2 x3 x4 h = some r) : X E mX12_layFar (d + 2) (0, 0) (0, 0) 72 [some (xr 12 0), some (xi x1), some (xi x2), some (xi x3), some (xi x4), none, none] [] h (PoV r) := by
  unfold b_X12_layFar_4 at hF
  refine x_iload (i := 4) (b := 74) dX12_layFar_72 rfl rfl ?_
  refine x_aload_n (i := 0) (b := 75) dX12_layFar_74 rfl rfl rfl ?_
  obtain ⟨v1, h2, hq, hF⟩ := bd_e hF
  refine x_callV (as := []) (rest := [xi x4]) (b := 78) (c_X12_cells d h _ hL hq) dX12_layFar_75 cw_X12_374 ⟨_, _, rfl, Nat.le_of_ble_eq_true rfl⟩ rfl rfl (Nat.le_of_ble_eq_true rfl) ⟨Nat.le_refl _, Nat.le_refl _⟩ rfl (fun rv hh hp _ => ?_)
  obtain ⟨rfl, rfl, hL⟩ := hp
  refine x_icmp_ge (tgt := 185) (b := 81) dX12_layFar_78 (by decide) rfl (fun hc => ?_) (fun hc => ?_)
  · replace hF := br_T hc hF
    obtain ⟨hs, hF⟩ := ck_e hF
    refine x_iinc (i := 3) (b := 188) (ls2 := [some (xr 12 0), some (xi x1), some (xi x2), some (xi (x3 + 1)), some (xi x4), none, none]) dX12_layFar_185 rfl (Nat.le_of_ble_eq_true rfl) hs rfl rfl ?_
    refine x_goto (tgt := 63) dX12_layFar_188 (by decide) ?_
    exact x_dp (ls2 := [some (xr 12 0), some (xi x1), some (xi x2), some (xi (x3 + 1)), none, none, none]) ⟨rfl, rfl, rfl, rfl, trivial⟩ (hr_63 x1 x2 (x3 + 1) h2 hL hF)
  · replace hF := br_F hc hF
    refine x_aload_n (i := 0) (b := 82) dX12_layFar_81 rfl rfl rfl ?_
    refine x_getL (j := 0) (t := (83, 0, true)) (b := 85) fk_X12_84 dX12_layFar_82 rfl hL rfl rfl rfl ?_
    refine x_bipush (n := 64) (b := 87) dX12_layFar_85 (by decide) rfl ?_
    refine x_iload_n (i := 1) (b := 88) dX12_layFar_87 rfl rfl rfl ?_
    obtain ⟨hs, hF⟩ := ck_e hF
    refine x_imul (b := 89) dX12_layFar_88 hs rfl ?_
    refine x_iload (i := 4) (b := 91) dX12_layFar_89 rfl rfl ?_
    obtain ⟨hs, hF⟩ := ck_e hF
    refine x_iadd (b := 92) dX12_layFar_91 hs rfl ?_
    obtain ⟨hs, hF⟩ := ck_e hF
    refine x_iald (v := gI h2 83 0 ((64 * x1) + x4)) (b := 93) ak_83 dX12_layFar_92 hs rfl rfl ?_
    refine x_iload_n (i := 3) (b := 94) dX12_layFar_93 rfl rfl rfl ?_
    refine x_icmp_eq (tgt := 100) (b := 97) dX12_layFar_94 (by decide) rfl (fun hc => ?_) (fun hc => ?_)
    · replace hF := br_T hc hF
      refine x_iconst (n := 0) (b := 101) dX12_layFar_100 (by decide) rfl ?_
      refine x_istore (i := 5) (b := 103) (ls2 := [some (xr 12 0), some (xi x1), some (xi x2), some (xi x3), some (xi x4), some (xi 0), none]) dX12_layFar_101 (Nat.le_of_ble_eq_true rfl) rfl rfl ?_
      exact x_dp (ls2 := [some (xr 12 0), some (xi x1), some (xi x2), some (xi x3), some (xi x4), some (xi 0), none]) ⟨rfl, rfl, rfl, rfl, rfl, rfl, trivial⟩ (hr_103 x1 x2 x3 x4 0 h2 hL hF)
    · replace hF := br_F hc hF
      refine x_goto (tgt := 179) dX12_layFar_97 (by decide) ?_
      exact x_dp (ls2 := [some (xr 12 0), some (xi x1), some (xi x2), some (xi x3), some (xi x4), none, none]) ⟨rfl, rfl, rfl, rfl, rfl, trivial⟩ (hr_179 x1 x2 x3 x4 h2 hL hF)
set_option maxHeartbeats 4000000 in
set_option maxRecDepth 100000 in
theorem t_X12_layFar_5 (E : xE) (d : Nat) (rec : Rk) (r : Int × Hp) (hr_173 : ∀ (x1 x2 x3 x4 x5 : Int) (h : Hp), Lay h → rec 6 [x1, x2, x3, x4, x5] h = some r → X E mX12_layFar (d + 2) (0, 0) (0, 0) 173 [some (xr 12 0), some (xi x1), some (xi x2), some (xi x3), some (xi x4), some (xi x5), none] [] h (PoV r)) (hr_179 : ∀ (x1 x2 x3 x4 : Int) (h : Hp), Lay h → rec 7 [x1, x2, x3, x4] h = some r → X E mX12_layFar (d + 2) (0, 0) (0, 0) 179 [some (xr 12 0), some (xi x1), some (xi x2), some (xi x3), some (xi x4), none, none] [] h (PoV r)) (x1 x2 x3 x4 x5 : Int) (h : Hp) (hL : Lay h) (hF : b_X12_layFar_5 rec x1 x2 x3 x4 x5 h = some r) : X E mX12_layFar (d + 2) (0, 0) (0, 0) 103 [some (xr 12 0), some (xi x1), some (xi x2), some (xi x3), some (xi x4), some (xi x5), none] [] h (PoV r) := by
  unfold b_X12_layFar_5 at hF
  refine x_iload (i := 5) (b := 105) dX12_layFar_103 rfl rfl ?_
  refine x_iconst (n := 4) (b := 106) dX12_layFar_105 (by decide) rfl ?_
  refine x_icmp_ge (tgt := 179) (b := 109) dX12_layFar_106 (by decide) rfl (fun hc => ?_) (fun hc => ?_)
  · replace hF := br_T hc hF
    exact x_dp (ls2 := [some (xr 12 0), some (xi x1), some (xi x2), some (xi x3), some (xi x4), none, none]) ⟨rfl, rfl, rfl, rfl, rfl, trivial⟩ (hr_179 x1 x2 x3 x4 h hL hF)
  · replace hF := br_F hc hF
    refine x_aload_n (i := 0) (b := 110) dX12_layFar_109 rfl rfl rfl ?_
    refine x_iload (i := 4) (b := 112) dX12_layFar_110 rfl rfl ?_
    refine x_iload (i := 5) (b := 114) dX12_layFar_112 rfl rfl ?_
    obtain ⟨v1, h2, hq, hF⟩ := bd_e hF
    refine x_callV (as := [xi x4, xi x5]) (rest := []) (b := 117) (c_X12_leads d x4 x5 h _ hL hq) dX12_layFar_114 cw_X12_377 ⟨_, _, rfl, Nat.le_of_ble_eq_true rfl⟩ rfl rfl (Nat.le_of_ble_eq_true rfl) ⟨Nat.le_refl _, Nat.le_refl _⟩ rfl (fun rv hh hp _ => ?_)
    obtain ⟨rfl, rfl, hL⟩ := hp
    refine x_istore (i := 6) (b := 119) (ls2 := [some (xr 12 0), some (xi x1), some (xi x2), some (xi x3), some (xi x4), some (xi x5), some (xi v1)]) dX12_layFar_117 (Nat.le_of_ble_eq_true rfl) rfl rfl ?_
    refine x_iload (i := 6) (b := 121) dX12_layFar_119 rfl rfl ?_
    refine x_iconst (n := (-1)) (b := 122) dX12_layFar_121 (by decide) rfl ?_
    refine x_icmp_eq (tgt := 173) (b := 125) dX12_layFar_122 (by decide) rfl (fun hc => ?_) (fun hc => ?_)
    · replace hF := br_T hc hF
      exact x_dp (ls2 := [some (xr 12 0), some (xi x1), some (xi x2), some (xi x3), some (xi x4), some (xi x5), none]) ⟨rfl, rfl, rfl, rfl, rfl, rfl, trivial⟩ (hr_173 x1 x2 x3 x4 x5 h2 hL hF)
    · replace hF := br_F hc hF
      refine x_aload_n (i := 0) (b := 126) dX12_layFar_125 rfl rfl rfl ?_
      refine x_getL (j := 0) (t := (62, 0, true)) (b := 129) fk_X12_16 dX12_layFar_126 rfl hL rfl rfl rfl ?_
      refine x_iload (i := 6) (b := 131) dX12_layFar_129 rfl rfl ?_
      obtain ⟨hs, hF⟩ := ck_e hF
      refine x_zald (v := gI h2 62 0 v1) (b := 132) ak_62 dX12_layFar_131 hs rfl rfl ?_
      refine x_if_ne (tgt := 173) (b := 135) dX12_layFar_132 (by decide) rfl (fun hc => ?_) (fun hc => ?_)
      · replace hF := br_F hc hF
        exact x_dp (ls2 := [some (xr 12 0), some (xi x1), some (xi x2), some (xi x3), some (xi x4), some (xi x5), none]) ⟨rfl, rfl, rfl, rfl, rfl, rfl, trivial⟩ (hr_173 x1 x2 x3 x4 x5 h2 hL hF)
      · replace hF := br_T hc hF
        refine x_aload_n (i := 0) (b := 136) dX12_layFar_135 rfl rfl rfl ?_
        refine x_getL (j := 0) (t := (83, 0, true)) (b := 139) fk_X12_84 dX12_layFar_136 rfl hL rfl rfl rfl ?_
        refine x_bipush (n := 64) (b := 141) dX12_layFar_139 (by decide) rfl ?_
        refine x_iload_n (i := 1) (b := 142) dX12_layFar_141 rfl rfl rfl ?_
        obtain ⟨hs, hF⟩ := ck_e hF
        refine x_imul (b := 143) dX12_layFar_142 hs rfl ?_
        refine x_iload (i := 6) (b := 145) dX12_layFar_143 rfl rfl ?_
        obtain ⟨hs, hF⟩ := ck_e hF
        refine x_iadd (b := 146) dX12_layFar_145 hs rfl ?_
        obtain ⟨hs, hF⟩ := ck_e hF
        refine x_iald (v := gI h2 83 0 ((64 * x1) + v1)) (b := 147) ak_83 dX12_layFar_146 hs rfl rfl ?_
        refine x_iload_n (i := 3) (b := 148) dX12_layFar_147 rfl rfl rfl ?_
        refine x_iconst (n := 1) (b := 149) dX12_layFar_148 (by decide) rfl ?_
        obtain ⟨hs, hF⟩ := ck_e hF
        refine x_iadd (b := 150) dX12_layFar_149 hs rfl ?_
        refine x_icmp_gt (tgt := 156) (b := 153) dX12_layFar_150 (by decide) rfl (fun hc => ?_) (fun hc => ?_)
        · replace hF := br_T hc hF
          refine x_aload_n (i := 0) (b := 157) dX12_layFar_156 rfl rfl rfl ?_
          refine x_getL (j := 0) (t := (83, 0, true)) (b := 160) fk_X12_84 dX12_layFar_157 rfl hL rfl rfl rfl ?_
          refine x_bipush (n := 64) (b := 162) dX12_layFar_160 (by decide) rfl ?_
          refine x_iload_n (i := 1) (b := 163) dX12_layFar_162 rfl rfl rfl ?_
          obtain ⟨hs, hF⟩ := ck_e hF
          refine x_imul (b := 164) dX12_layFar_163 hs rfl ?_
          refine x_iload (i := 6) (b := 166) dX12_layFar_164 rfl rfl ?_
          obtain ⟨hs, hF⟩ := ck_e hF
          refine x_iadd (b := 167) dX12_layFar_166 hs rfl ?_
          refine x_iload_n (i := 3) (b := 168) dX12_layFar_167 rfl rfl rfl ?_
          refine x_iconst (n := 1) (b := 169) dX12_layFar_168 (by decide) rfl ?_
          obtain ⟨hs, hF⟩ := ck_e hF
          refine x_iadd (b := 170) dX12_layFar_169 hs rfl ?_
          obtain ⟨hs, hF⟩ := ck_e hF
          have hs1 := hs
          refine x_iast (b := 171) ak_83 dX12_layFar_170 hs1 rfl ?_
          obtain ⟨h3, e_h3, hF⟩ := lt_e hF
          refine x_hp (h2 := h3) e_h3 ?_
          replace hL : Lay h3 := by rw [← e_h3]; exact hL
          refine x_iconst (n := 1) (b := 172) dX12_layFar_171 (by decide) rfl ?_
          refine x_istore_n (i := 2) (b := 173) (ls2 := [some (xr 12 0), some (xi x1), some (xi 1), some (xi x3), some (xi x4), some (xi x5), some (xi v1)]) dX12_layFar_172 rfl (Nat.le_of_ble_eq_true rfl) rfl rfl ?_
          exact x_dp (ls2 := [some (xr 12 0), some (xi x1), some (xi 1), some (xi x3), some (xi x4), some (xi x5), none]) ⟨rfl, rfl, rfl, rfl, rfl, rfl, trivial⟩ (hr_173 x1 1 x3 x4 x5 h3 hL hF)
        · replace hF := br_F hc hF
          refine x_goto (tgt := 173) dX12_layFar_153 (by decide) ?_
          exact x_dp (ls2 := [some (xr 12 0), some (xi x1), some (xi x2), some (xi x3), some (xi x4), some (xi x5), none]) ⟨rfl, rfl, rfl, rfl, rfl, rfl, trivial⟩ (hr_173 x1 x2 x3 x4 x5 h2 hL hF)
set_option maxHeartbeats 4000000 in
set_option maxRecDepth 100000 in
theorem t_X12_layFar_6 (E : xE) (d : Nat) (rec : Rk) (r : Int × Hp) (hr_103 : ∀ (x1 x2 x3 x4 x5 : Int) (h : Hp), Lay h → rec 5 [x1, x2, x3, x4, x5] h = some r → X E mX12_layFar (d + 2) (0, 0) (0, 0) 103 [some (xr 12 0), some (xi x1), some (xi x2), some (xi x3), some (xi x4), some (xi x5), none] [] h (PoV r)) (x1 x2 x3 x4 x5 : Int) (h : Hp) (hL : Lay h) (hF : b_X12_layFar_6 rec x1 x2 x3 x4 x5 h = some r) : X E mX12_layFar (d + 2) (0, 0) (0, 0) 173 [some (xr 12 0), some (xi x1), some (xi x2), some (xi x3), some (xi x4), some (xi x5), none] [] h (PoV r) := by
  unfold b_X12_layFar_6 at hF
  obtain ⟨hs, hF⟩ := ck_e hF
  refine x_iinc (i := 5) (b := 176) (ls2 := [some (xr 12 0), some (xi x1), some (xi x2), some (xi x3), some (xi x4), some (xi (x5 + 1)), none]) dX12_layFar_173 rfl (Nat.le_of_ble_eq_true rfl) hs rfl rfl ?_
  refine x_goto (tgt := 103) dX12_layFar_176 (by decide) ?_
  exact x_dp (ls2 := [some (xr 12 0), some (xi x1), some (xi x2), some (xi x3), some (xi x4), some (xi (x5 + 1)), none]) ⟨rfl, rfl, rfl, rfl, rfl, rfl, trivial⟩ (hr_103 x1 x2 x3 x4 (x5 + 1) h hL hF)
set_option maxHeartbeats 4000000 in
set_option maxRecDepth 100000 in
theorem t_X12_layFar_7 (E : xE) (d : Nat) (rec : Rk) (r : Int × Hp) (hr_72 : ∀ (x1 x2 x3 x4 : Int) (h : Hp), Lay h → rec 4 [x1, x2, x3, x4] h = some r → X E mX12_layFar (d + 2) (0, 0) (0, 0) 72 [some (xr 12 0), some (xi x1), some (xi x2), some (xi x3), some (xi x4), none, none] [] h (PoV r)) (x1 x2 x3 x4 : Int) (h : Hp) (hL : Lay h) (hF : b_X12_layFar_7 rec x1 x2 x3 x4 h = some r) : X E mX12_layFar (d + 2) (0, 0) (0, 0) 179 [some (xr 12 0), some (xi x1), some (xi x2), some (xi x3), some (xi x4), none, none] [] h (PoV r) := by
  unfold b_X12_layFar_7 at hF
  obtain ⟨hs, hF⟩ := ck_e hF
  refine x_iinc (i := 4) (b := 182) (ls2 := [some (xr 12 0), some (xi x1), some (xi x2), some (xi x3), some (xi (x4 + 1)), none, none]) dX12_layFar_179 rfl (Nat.le_of_ble_eq_true rfl) hs rfl rfl ?_
  refine x_goto (tgt := 72) dX12_layFar_182 (by decide) ?_
  exact x_dp (ls2 := [some (xr 12 0), some (xi x1), some (xi x2), some (xi x3), some (xi (x4 + 1)), none, none]) ⟨rfl, rfl, rfl, rfl, rfl, trivial⟩ (hr_72 x1 x2 x3 (x4 + 1) h hL hF)
set_option maxHeartbeats 4000000 in
set_option maxRecDepth 100000 in
theorem t_X12_layFar_8 (E : xE) (d : Nat) (rec : Rk) (r : Int × Hp) (hr_27 : ∀ (x1 : Int) (h : Hp), Lay h → rec 2 [x1] h = some r → X E mX12_layFar (d + 2) (0, 0) (0, 0) 27 [some (xr 12 0), some (xi x1), none, none, none, none, none] [] h (PoV r)) (x1 : Int) (h : Hp) (hL : Lay h) (hF : b_X12_layFar_8 rec x1 h = some r) : X E mX12_layFar (d + 2) (0, 0) (0, 0) 191 [some (xr 12 0), some (xi x1), none, none, none, none, none] [] h (PoV r) := by
  unfold b_X12_layFar_8 at hF
  obtain ⟨hs, hF⟩ := ck_e hF
  refine x_iinc (i := 1) (b := 194) (ls2 := [some (xr 12 0), some (xi (x1 + 1)), none, none, none, none, none]) dX12_layFar_191 rfl (Nat.le_of_ble_eq_true rfl) hs rfl rfl ?_
  refine x_goto (tgt := 27) dX12_layFar_194 (by decide) ?_
  exact x_dp (ls2 := [some (xr 12 0), some (xi (x1 + 1)), none, none, none, none, none]) ⟨rfl, rfl, trivial⟩ (hr_27 (x1 + 1) h hL hF)
set_option maxHeartbeats 4000000 in
set_option maxRecDepth 100000 in
theorem u_X12_layFar (E : xE) (d : Nat) (r : Int × Hp) : ∀ n : Nat, (∀ (h : Hp), Lay h → g_X12_layFar n 0 [] h = some r → X E mX12_layFar (d + 2) (0, 0) (0, 0) 0 [some (xr 12 0), none, none, none, none, none, none] [] h (PoV r)) ∧ (∀ (x1 : Int) (h : Hp), Lay h → g_X12_layFar n 1 [x1] h = some r → X E mX12_layFar (d + 2) (0, 0) (0, 0) 2 [some (xr 12 0), some (xi x1), none, none, none, none, none] [] h (PoV r)) ∧ (∀ (x1 : Int) (h : Hp), Lay h → g_X12_layFar n 2 [x1] h = some r → X E mX12_layFar (d + 2) (0, 0) (0, 0) 27 [some (xr 12 0), some (xi x1), none, none, none, none, none] [] h (PoV r)) ∧ (∀ (x1 x2 x3 : Int) (h : Hp), Lay h → g_X12_layFar n 3 [x1, x2, x3] h = some r → X E mX12_layFar (d + 2) (0, 0) (0, 0) 63 [some (xr 12 0), some (xi x1), some (xi x2), some (xi x3), none, none, none] [] h (PoV r)) ∧ (∀ (x1 x2 x3 x4 : Int) (h : Hp), Lay h → g_X12_layFar n 4 [x1, x2, x3, x4] h = some r → X E mX12_layFar (d + 2) (0, 0) (0, 0) 72 [some (xr 12 0), some (xi x1), some (xi x2), some (xi x3), some (xi x4), none, none] [] h (PoV r)) ∧ (∀ (x1 x2 x3 x4 x5 : Int) (h : Hp), Lay h → g_X12_layFar n 5 [x1, x2, x3, x4, x5] h = some r → X E mX12_layFar (d + 2) (0, 0) (0, 0) 103 [some (xr 12 0), some (xi x1), some (xi x2), some (xi x3), some (xi x4), some (xi x5), none] [] h (PoV r)) ∧ (∀ (x1 x2 x3 x4 x5 : Int) (h : Hp), Lay h → g_X12_layFar n 6 [x1, x2, x3, x4, x5] h = some r → X E mX12_layFar (d + 2) (0, 0) (0, 0) 173 [some (xr 12 0), some (xi x1), some (xi x2), some (xi x3), some (xi x4), some (xi x5), none] [] h (PoV r)) ∧ (∀ (x1 x2 x3 x4 : Int) (h : Hp), Lay h → g_X12_layFar n 7 [x1, x2, x3, x4] h = some r → X E mX12_layFar (d + 2) (0, 0) (0, 0) 179 [some (xr 12 0), some (xi x1), some (xi x2), some (xi x3), some (xi x4), none, none] [] h (PoV r)) ∧ (∀ (x1 : Int) (h : Hp), Lay h → g_X12_layFar n 8 [x1] h = some r → X E mX12_layFar (d + 2) (0, 0) (0, 0) 191 [some (xr 12 0), some (xi x1), none, none, none, none, none] [] h (PoV r)) := by
  intro n
  induction n with
  | zero => exact ⟨fun _ _ hF => no_e (r := r) hF, fun _ _ _ hF => no_e (r := r) hF, fun _ _ _ hF => no_e (r := r) hF, fun _ _ _ _ _ hF => no_e (r := r) hF, fun _ _ _ _ _ _ hF => no_e (r := r) hF, fun _ _ _ _ _ _ _ hF => no_e (r := r) hF, fun _ _ _ _ _ _ _ hF => no_e (r := r) hF, fun _ _ _ _ _ _ hF => no_e (r := r) hF, fun _ _ _ hF => no_e (r := r) hF⟩
  | succ n ih => exact ⟨fun h hL hF => t_X12_layFar_0 E d (g_X12_layFar n) r ih.2.1  h hL hF, fun x1 h hL hF => t_X12_layFar_1 E d (g_X12_layFar n) r ih.2.1 ih.2.2.1 x1 h hL hF, fun x1 h hL hF => t_X12_layFar_2 E d (g_X12_layFar n) r ih.2.2.2.1 ih.2.2.2.2.2.2.2.2 x1 h hL hF, fun x1 x2 x3 h hL hF => t_X12_layFar_3 E d (g_X12_layFar n) r ih.2.2.2.2.1 ih.2.2.2.2.2.2.2.2 x1 x2 x3 h hL hF, fun x1 x2 x3 x4 h hL hF => t_X12_layFar_4 E d (g_X12_layFar n) r ih.2.2.2.1 ih.2.2.2.2.2.1 ih.2.2.2.2.2.2.2.1 x1 x2 x3 x4 h hL hF, fun x1 x2 x3 x4 x5 h hL hF => t_X12_layFar_5 E d (g_X12_layFar n) r ih.2.2.2.2.2.2.1 ih.2.2.2.2.2.2.2.1 x1 x2 x3 x4 x5 h hL hF, fun x1 x2 x3 x4 x5 h hL hF => t_X12_layFar_6 E d (g_X12_layFar n) r ih.2.2.2.2.2.1 x1 x2 x3 x4 x5 h hL hF, fun x1 x2 x3 x4 h hL hF => t_X12_layFar_7 E d (g_X12_layFar n) r ih.2.2.2.2.1 x1 x2 x3 x4 h hL hF, fun x1 h hL hF => t_X12_layFar_8 E d (g_X12_layFar n) r ih.2.2.1 x1 h hL hF⟩
theorem c_X12_layFar (d : Nat) (h : Hp) (r : Int × Hp) (hL : Lay h) (hF : f_X12_layFar  h = some r) : Sp mX12_layFar (d + 2) (0, 0) [xr 12 0] h (PoV r) :=
  sp_of (by decide) rfl (Nat.le_of_ble_eq_true rfl) (ls := [some (xr 12 0), none, none, none, none, none, none]) rfl (fun E _ => (u_X12_layFar E d r FU).1  h hL hF)
theorem dX12_look_0 : decode cX12_look 0 = .ok (.aload_n 0, 1) := by decide +kernel
theorem dX12_look_1 : decode cX12_look 1 = .ok (.iload_n 1, 1) := by decide +kernel
theorem dX12_look_2 : decode cX12_look 2 = .ok (.invokevirtual 452, 3) := by decide +kernel
theorem dX12_look_5 : decode cX12_look 5 = .ok (.istore_n 3, 1) := by decide +kernel
theorem dX12_look_6 : decode cX12_look 6 = .ok (.aload_n 0, 1) := by decide +kernel
theorem dX12_look_7 : decode cX12_look 7 = .ok (.iload_n 3, 1) := by decide +kernel
theorem dX12_look_8 : decode cX12_look 8 = .ok (.iconst (-1), 1) := by decide +kernel
theorem dX12_look_9 : decode cX12_look 9 = .ok (.if_icmp .ne 7, 3) := by decide +kernel
theorem dX12_look_12 : decode cX12_look 12 = .ok (.iconst 1, 1) := by decide +kernel
theorem dX12_look_13 : decode cX12_look 13 = .ok (.goto 17, 3) := by decide +kernel
theorem dX12_look_16 : decode cX12_look 16 = .ok (.iload_n 2, 1) := by decide +kernel
theorem dX12_look_17 : decode cX12_look 17 = .ok (.ifCond .lt 8, 3) := by decide +kernel
theorem dX12_look_20 : decode cX12_look 20 = .ok (.iload_n 2, 1) := by decide +kernel
theorem dX12_look_21 : decode cX12_look 21 = .ok (.iconst 4, 1) := by decide +kernel
theorem dX12_look_22 : decode cX12_look 22 = .ok (.if_icmp .le 7, 3) := by decide +kernel
theorem dX12_look_25 : decode cX12_look 25 = .ok (.iconst 2, 1) := by decide +kernel
theorem dX12_look_26 : decode cX12_look 26 = .ok (.goto 4, 3) := by decide +kernel
theorem dX12_look_29 : decode cX12_look 29 = .ok (.iconst 0, 1) := by decide +kernel
theorem dX12_look_30 : decode cX12_look 30 = .ok (.putfield 194, 3) := by decide +kernel
theorem dX12_look_33 : decode cX12_look 33 = .ok (.aload_n 0, 1) := by decide +kernel
theorem dX12_look_34 : decode cX12_look 34 = .ok (.getfield 194, 3) := by decide +kernel
theorem dX12_look_37 : decode cX12_look 37 = .ok (.ifCond .eq 5, 3) := by decide +kernel
theorem dX12_look_40 : decode cX12_look 40 = .ok (.iconst 0, 1) := by decide +kernel
theorem dX12_look_41 : decode cX12_look 41 = .ok (.ireturn, 1) := by decide +kernel
theorem dX12_look_42 : decode cX12_look 42 = .ok (.aload_n 0, 1) := by decide +kernel
theorem dX12_look_43 : decode cX12_look 43 = .ok (.invokevirtual 455, 3) := by decide +kernel
theorem dX12_look_46 : decode cX12_look 46 = .ok (.iload_n 2, 1) := by decide +kernel
theorem dX12_look_47 : decode cX12_look 47 = .ok (.tableswitch 73 0 3 #[29, 44, 51, 58], 29) := by decide +kernel
theorem dX12_look_76 : decode cX12_look 76 = .ok (.aload_n 0, 1) := by decide +kernel
theorem dX12_look_77 : decode cX12_look 77 = .ok (.iconst 0, 1) := by decide +kernel
theorem dX12_look_78 : decode cX12_look 78 = .ok (.iload_n 3, 1) := by decide +kernel
theorem dX12_look_79 : decode cX12_look 79 = .ok (.invokevirtual 422, 3) := by decide +kernel
theorem dX12_look_82 : decode cX12_look 82 = .ok (.ifCond .eq 7, 3) := by decide +kernel
theorem dX12_look_85 : decode cX12_look 85 = .ok (.iconst 1, 1) := by decide +kernel
theorem dX12_look_86 : decode cX12_look 86 = .ok (.goto 4, 3) := by decide +kernel
theorem dX12_look_89 : decode cX12_look 89 = .ok (.iconst 0, 1) := by decide +kernel
theorem dX12_look_90 : decode cX12_look 90 = .ok (.ireturn, 1) := by decide +kernel
theorem dX12_look_91 : decode cX12_look 91 = .ok (.aload_n 0, 1) := by decide +kernel
theorem dX12_look_92 : decode cX12_look 92 = .ok (.iconst 0, 1) := by decide +kernel
theorem dX12_look_93 : decode cX12_look 93 = .ok (.iload_n 3, 1) := by decide +kernel
theorem dX12_look_94 : decode cX12_look 94 = .ok (.invokevirtual 426, 3) := by decide +kernel
theorem dX12_look_97 : decode cX12_look 97 = .ok (.ireturn, 1) := by decide +kernel
theorem dX12_look_98 : decode cX12_look 98 = .ok (.aload_n 0, 1) := by decide +kernel
theorem dX12_look_99 : decode cX12_look 99 = .ok (.getfield 108, 3) := by decide +kernel
theorem dX12_look_102 : decode cX12_look 102 = .ok (.iload_n 3, 1) := by decide +kernel
theorem dX12_look_103 : decode cX12_look 103 = .ok (.iaload, 1) := by decide +kernel
theorem dX12_look_104 : decode cX12_look 104 = .ok (.ireturn, 1) := by decide +kernel
theorem dX12_look_105 : decode cX12_look 105 = .ok (.aload_n 0, 1) := by decide +kernel
theorem dX12_look_106 : decode cX12_look 106 = .ok (.getfield 111, 3) := by decide +kernel
theorem dX12_look_109 : decode cX12_look 109 = .ok (.iload_n 3, 1) := by decide +kernel
theorem dX12_look_110 : decode cX12_look 110 = .ok (.baload, 1) := by decide +kernel
theorem dX12_look_111 : decode cX12_look 111 = .ok (.ifCond .eq 7, 3) := by decide +kernel
theorem dX12_look_114 : decode cX12_look 114 = .ok (.iconst 1, 1) := by decide +kernel
theorem dX12_look_115 : decode cX12_look 115 = .ok (.goto 4, 3) := by decide +kernel
theorem dX12_look_118 : decode cX12_look 118 = .ok (.iconst 0, 1) := by decide +kernel
theorem dX12_look_119 : decode cX12_look 119 = .ok (.ireturn, 1) := by decide +kernel
theorem dX12_look_120 : decode cX12_look 120 = .ok (.iload_n 3, 1) := by decide +kernel
theorem dX12_look_121 : decode cX12_look 121 = .ok (.iconst 5, 1) := by decide +kernel
theorem dX12_look_122 : decode cX12_look 122 = .ok (.if_icmp .ge 17, 3) := by decide +kernel
theorem dX12_look_125 : decode cX12_look 125 = .ok (.aload_n 0, 1) := by decide +kernel
theorem dX12_look_126 : decode cX12_look 126 = .ok (.getfield 102, 3) := by decide +kernel
theorem dX12_look_129 : decode cX12_look 129 = .ok (.iconst 0, 1) := by decide +kernel
theorem dX12_look_130 : decode cX12_look 130 = .ok (.iaload, 1) := by decide +kernel
theorem dX12_look_131 : decode cX12_look 131 = .ok (.iload_n 3, 1) := by decide +kernel
theorem dX12_look_132 : decode cX12_look 132 = .ok (.ishr, 1) := by decide +kernel
theorem dX12_look_133 : decode cX12_look 133 = .ok (.iconst 1, 1) := by decide +kernel
theorem dX12_look_134 : decode cX12_look 134 = .ok (.iand, 1) := by decide +kernel
theorem dX12_look_135 : decode cX12_look 135 = .ok (.iconst 1, 1) := by decide +kernel
theorem dX12_look_136 : decode cX12_look 136 = .ok (.if_icmp .ne 7, 3) := by decide +kernel
theorem dX12_look_139 : decode cX12_look 139 = .ok (.iconst 1, 1) := by decide +kernel
theorem dX12_look_140 : decode cX12_look 140 = .ok (.goto 4, 3) := by decide +kernel
theorem dX12_look_143 : decode cX12_look 143 = .ok (.iconst 0, 1) := by decide +kernel
theorem dX12_look_144 : decode cX12_look 144 = .ok (.ireturn, 1) := by decide +kernel
noncomputable def b_X12_look_0 (rec : Rk) (x1 x2 : Int) (h : Hp) : Option (Int × Hp) :=
  bd (f_X12_slot x1 h) fun v1 h2 =>
  if v1 = (-1) then (
    rec 2 [x2, v1, 1] h2
  ) else (
    if x2 < 0 then (
      rec 1 [x2, v1] h2
    ) else (
      if x2 ≤ 4 then (
        rec 2 [x2, v1, 0] h2
      ) else (
        rec 1 [x2, v1] h2
      )
    )
  )
noncomputable def b_X12_look_1 (rec : Rk) (x2 x3 : Int) (h : Hp) : Option (Int × Hp) :=
  rec 2 [x2, x3, 2] h
noncomputable def b_X12_look_2 (rec : Rk) (x2 x3 y0 : Int) (h : Hp) : Option (Int × Hp) :=
  lt (sI h 12 0 0 y0) fun h1 =>
  if (gI h1 12 0 0) = 0 then (
    bd (f_X12_plain h1) fun v2 h3 =>
    if x2 = 0 then (
      bd (f_X12_isAboard 0 x3 h3) fun v4 h5 =>
      if v4 = 0 then (
        some (0, h5)
      ) else (
        some (1, h5)
      )
    ) else (
    if x2 = 1 then (
      bd (f_X12_platesOf 0 x3 h3) fun v6 h7 =>
      some (v6, h7)
    ) else (
    if x2 = 2 then (
      ck (0 ≤ x3 ∧ x3 < 207) <|
      some (gI h3 91 0 x3, h3)
    ) else (
    if x2 = 3 then (
      ck (0 ≤ x3 ∧ x3 < 207) <|
      if (gI h3 92 0 x3) = 0 then (
        some (0, h3)
      ) else (
        some (1, h3)
      )
    ) else (
    if 5 ≤ x3 then (
      rec 3 [] h3
    ) else (
      ck (0 ≤ (0 : Int) ∧ (0 : Int) < 23) <|
      if (band (bshr (gI h3 89 0 0) x3) 1) = 1 then (
        rec 3 [] h3
      ) else (
        some (0, h3)
      )
    )
    )
    )
    )
    )
  ) else (
    some (0, h1)
  )
noncomputable def b_X12_look_3 (rec : Rk) (h : Hp) : Option (Int × Hp) :=
  some (1, h)
noncomputable def g_X12_look (n : Nat) : Rk := Nat.rec (motive := fun _ => Rk) (fun _ _ _ => none) (fun _ rec k l h => if k = 0 then b_X12_look_0 rec (l.getD 0 0) (l.getD 1 0) h else if k = 1 then b_X12_look_1 rec (l.getD 0 0) (l.getD 1 0) h else if k = 2 then b_X12_look_2 rec (l.getD 0 0) (l.getD 1 0) (l.getD 2 0) h else if k = 3 then b_X12_look_3 rec  h else none) n
noncomputable def f_X12_look (x1 x2 : Int) (h : Hp) : Option (Int × Hp) := g_X12_look FU 0 [x1, x2] h
set_option maxHeartbeats 4000000 in
set_option maxRecDepth 100000 in
theorem t_X12_look_0 (E : xE) (d : Nat) (rec : Rk) (r : Int × Hp) (hr_25 : ∀ (x2 x3 : Int) (h : Hp), Lay h → rec 1 [x2, x3] h = some r → X E mX12_look (d + 3) (0, 0) (0, 0) 25 [some (xr 12 0), none, some (xi x2), some (xi x3)] [xr 12 0] h (PoI r)) (hr_30 : ∀ (x2 x3 y0 : Int) (h : Hp), Lay h → rec 2 [x2, x3, y0] h = some r → X E mX12_look (d + 3) (0, 0) (0, 0) 30 [some (xr 12 0), none, some (xi x2), some (xi x3)] [xi y0, xr 12 0] h (PoI r)) (x1 x2 : Int) (h : Hp) (hL : Lay h) (hF : b_X12_look_0 rec x1 x2 h = some r) : X E mX12_look (d + 3) (0, 0) (0, 0) 0 [some (xr 12 0), some (xi x1), some (xi x2), none] [] h (PoI r) := by
  unfold b_X12_look_0 at hF
  refine x_aload_n (i := 0) (b := 1) dX12_look_0 rfl rfl rfl ?_
  refine x_iload_n (i := 1) (b := 2) dX12_look_1 rfl rfl rfl ?_
  obtain ⟨v1, h2, hq, hF⟩ := bd_e hF
  refine x_callV (as := [xi x1]) (rest := []) (b := 5) (c_X12_slot (d + 1) x1 h _ hL hq) dX12_look_2 cw_X12_452 ⟨_, _, rfl, Nat.le_of_ble_eq_true rfl⟩ rfl rfl (Nat.le_of_ble_eq_true rfl) ⟨Nat.le_refl _, Nat.le_refl _⟩ rfl (fun rv hh hp _ => ?_)
  obtain ⟨rfl, rfl, hL⟩ := hp
  refine x_istore_n (i := 3) (b := 6) (ls2 := [some (xr 12 0), some (xi x1), some (xi x2), some (xi v1)]) dX12_look_5 rfl (Nat.le_of_ble_eq_true rfl) rfl rfl ?_
  refine x_aload_n (i := 0) (b := 7) dX12_look_6 rfl rfl rfl ?_
  refine x_iload_n (i := 3) (b := 8) dX12_look_7 rfl rfl rfl ?_
  refine x_iconst (n := (-1)) (b := 9) dX12_look_8 (by decide) rfl ?_
  refine x_icmp_ne (tgt := 16) (b := 12) dX12_look_9 (by decide) rfl (fun hc => ?_) (fun hc => ?_)
  · replace hF := br_F hc hF
    refine x_iload_n (i := 2) (b := 17) dX12_look_16 rfl rfl rfl ?_
    refine x_if_lt (tgt := 25) (b := 20) dX12_look_17 (by decide) rfl (fun hc => ?_) (fun hc => ?_)
    · replace hF := br_T hc hF
      exact x_dp (ls2 := [some (xr 12 0), none, some (xi x2), some (xi v1)]) ⟨rfl, rfl, rfl, trivial⟩ (hr_25 x2 v1 h2 hL hF)
    · replace hF := br_F hc hF
      refine x_iload_n (i := 2) (b := 21) dX12_look_20 rfl rfl rfl ?_
      refine x_iconst (n := 4) (b := 22) dX12_look_21 (by decide) rfl ?_
      refine x_icmp_le (tgt := 29) (b := 25) dX12_look_22 (by decide) rfl (fun hc => ?_) (fun hc => ?_)
      · replace hF := br_T hc hF
        refine x_iconst (n := 0) (b := 30) dX12_look_29 (by decide) rfl ?_
        exact x_dp (ls2 := [some (xr 12 0), none, some (xi x2), some (xi v1)]) ⟨rfl, rfl, rfl, trivial⟩ (hr_30 x2 v1 0 h2 hL hF)
      · replace hF := br_F hc hF
        exact x_dp (ls2 := [some (xr 12 0), none, some (xi x2), some (xi v1)]) ⟨rfl, rfl, rfl, trivial⟩ (hr_25 x2 v1 h2 hL hF)
  · replace hF := br_T hc hF
    refine x_iconst (n := 1) (b := 13) dX12_look_12 (by decide) rfl ?_
    refine x_goto (tgt := 30) dX12_look_13 (by decide) ?_
    exact x_dp (ls2 := [some (xr 12 0), none, some (xi x2), some (xi v1)]) ⟨rfl, rfl, rfl, trivial⟩ (hr_30 x2 v1 1 h2 hL hF)
set_option maxHeartbeats 4000000 in
set_option maxRecDepth 100000 in
theorem t_X12_look_1 (E : xE) (d : Nat) (rec : Rk) (r : Int × Hp) (hr_30 : ∀ (x2 x3 y0 : Int) (h : Hp), Lay h → rec 2 [x2, x3, y0] h = some r → X E mX12_look (d + 3) (0, 0) (0, 0) 30 [some (xr 12 0), none, some (xi x2), some (xi x3)] [xi y0, xr 12 0] h (PoI r)) (x2 x3 : Int) (h : Hp) (hL : Lay h) (hF : b_X12_look_1 rec x2 x3 h = some r) : X E mX12_look (d + 3) (0, 0) (0, 0) 25 [some (xr 12 0), none, some (xi x2), some (xi x3)] [xr 12 0] h (PoI r) := by
  unfold b_X12_look_1 at hF
  refine x_iconst (n := 2) (b := 26) dX12_look_25 (by decide) rfl ?_
  refine x_goto (tgt := 30) dX12_look_26 (by decide) ?_
  exact x_dp (ls2 := [some (xr 12 0), none, some (xi x2), some (xi x3)]) ⟨rfl, rfl, rfl, trivial⟩ (hr_30 x2 x3 2 h hL hF)
set_option maxHeartbeats 4000000 in
set_option maxRecDepth 100000 in
theorem t_X12_look_2 (E : xE) (d : Nat) (rec : Rk) (r : Int × Hp) (hr_139 : ∀ (h : Hp), Lay h → rec 3 [] h = some r → X E mX12_look (d + 3) (0, 0) (0, 0) 139 [none, none, none, none] [] h (PoI r)) (x2 x3 y0 : Int) (h : Hp) (hL : Lay h) (hF : b_X12_look_2 rec x2 x3 y0 h = some r) : X E mX12_look (d + 3) (0, 0) (0, 0) 30 [some (xr 12 0), none, some (xi x2), some (xi x3)] [xi y0, xr 12 0] h (PoI r) := by
  unfold b_X12_look_2 at hF
  refine x_putI (b := 33) fk_X12_194 dX12_look_30 rfl rfl 0 rfl ?_
  obtain ⟨h1, e_h1, hF⟩ := lt_e hF
  refine x_hp (h2 := h1) e_h1 ?_
  replace hL : Lay h1 := by rw [← e_h1]; exact hL
  refine x_aload_n (i := 0) (b := 34) dX12_look_33 rfl rfl rfl ?_
  refine x_getI (v := gI h1 12 0 0) (b := 37) fk_X12_194 dX12_look_34 (by decide) rfl rfl ?_
  refine x_if_eq (tgt := 42) (b := 40) dX12_look_37 (by decide) rfl (fun hc => ?_) (fun hc => ?_)
  · replace hF := br_T hc hF
    refine x_aload_n (i := 0) (b := 43) dX12_look_42 rfl rfl rfl ?_
    obtain ⟨v2, h3, hq, hF⟩ := bd_e hF
    refine x_callV (as := []) (rest := []) (b := 46) (c_X12_plain (d + 1) h1 _ hL hq) dX12_look_43 cw_X12_455 ⟨_, _, rfl, Nat.le_of_ble_eq_true rfl⟩ rfl rfl (Nat.le_of_ble_eq_true rfl) ⟨Nat.le_refl _, Nat.le_refl _⟩ rfl (fun rv hh hp _ => ?_)
    obtain ⟨rfl, rfl, hL⟩ := hp
    refine x_iload_n (i := 2) (b := 47) dX12_look_46 rfl rfl rfl ?_
    by_cases hw47_0 : x2 = 0
    · replace hF := br_T hw47_0 hF
      refine x_tableIn (tgt := 76) dX12_look_47 0 hw47_0 ⟨by decide, by decide⟩ rfl (by decide) ?_
      refine x_aload_n (i := 0) (b := 77) dX12_look_76 rfl rfl rfl ?_
      refine x_iconst (n := 0) (b := 78) dX12_look_77 (by decide) rfl ?_
      refine x_iload_n (i := 3) (b := 79) dX12_look_78 rfl rfl rfl ?_
      obtain ⟨v4, h5, hq, hF⟩ := bd_e hF
      refine x_callV (as := [xi 0, xi x3]) (rest := []) (b := 82) (c_X12_isAboard d 0 x3 h3 _ hL hq) dX12_look_79 cw_X12_422 ⟨_, _, rfl, Nat.le_of_ble_eq_true rfl⟩ rfl rfl (Nat.le_of_ble_eq_true rfl) ⟨Nat.le_refl _, Nat.le_refl _⟩ rfl (fun rv hh hp _ => ?_)
      obtain ⟨rfl, rfl, hL⟩ := hp
      refine x_if_eq (tgt := 89) (b := 85) dX12_look_82 (by decide) rfl (fun hc => ?_) (fun hc => ?_)
      · replace hF := br_T hc hF
        refine x_iconst (n := 0) (b := 90) dX12_look_89 (by decide) rfl ?_
        refine x_ireturn dX12_look_90 rfl ⟨Nat.le_refl _, Nat.le_refl _⟩ ?_
        cases hF
        exact ⟨rfl, rfl, hL⟩
      · replace hF := br_F hc hF
        refine x_iconst (n := 1) (b := 86) dX12_look_85 (by decide) rfl ?_
        refine x_goto (tgt := 90) dX12_look_86 (by decide) ?_
        refine x_ireturn dX12_look_90 rfl ⟨Nat.le_refl _, Nat.le_refl _⟩ ?_
        cases hF
        exact ⟨rfl, rfl, hL⟩
    replace hF := br_F hw47_0 hF
    by_cases hw47_1 : x2 = 1
    · replace hF := br_T hw47_1 hF
      refine x_tableIn (tgt := 91) dX12_look_47 1 hw47_1 ⟨by decide, by decide⟩ rfl (by decide) ?_
      refine x_aload_n (i := 0) (b := 92) dX12_look_91 rfl rfl rfl ?_
      refine x_iconst (n := 0) (b := 93) dX12_look_92 (by decide) rfl ?_
      refine x_iload_n (i := 3) (b := 94) dX12_look_93 rfl rfl rfl ?_
      obtain ⟨v6, h7, hq, hF⟩ := bd_e hF
      refine x_callV (as := [xi 0, xi x3]) (rest := []) (b := 97) (c_X12_platesOf (d + 1) 0 x3 h3 _ hL hq) dX12_look_94 cw_X12_426 ⟨_, _, rfl, Nat.le_of_ble_eq_true rfl⟩ rfl rfl (Nat.le_of_ble_eq_true rfl) ⟨Nat.le_refl _, Nat.le_refl _⟩ rfl (fun rv hh hp _ => ?_)
      obtain ⟨rfl, rfl, hL⟩ := hp
      refine x_ireturn dX12_look_97 rfl ⟨Nat.le_refl _, Nat.le_refl _⟩ ?_
      cases hF
      exact ⟨rfl, rfl, hL⟩
    replace hF := br_F hw47_1 hF
    by_cases hw47_2 : x2 = 2
    · replace hF := br_T hw47_2 hF
      refine x_tableIn (tgt := 98) dX12_look_47 2 hw47_2 ⟨by decide, by decide⟩ rfl (by decide) ?_
      refine x_aload_n (i := 0) (b := 99) dX12_look_98 rfl rfl rfl ?_
      refine x_getL (j := 0) (t := (91, 0, true)) (b := 102) fk_X12_108 dX12_look_99 rfl hL rfl rfl rfl ?_
      refine x_iload_n (i := 3) (b := 103) dX12_look_102 rfl rfl rfl ?_
      obtain ⟨hs, hF⟩ := ck_e hF
      refine x_iald (v := gI h3 91 0 x3) (b := 104) ak_91 dX12_look_103 hs rfl rfl ?_
      refine x_ireturn dX12_look_104 rfl ⟨Nat.le_refl _, Nat.le_refl _⟩ ?_
      cases hF
      exact ⟨rfl, rfl, hL⟩
    replace hF := br_F hw47_2 hF
    by_cases hw47_3 : x2 = 3
    · replace hF := br_T hw47_3 hF
      refine x_tableIn (tgt := 105) dX12_look_47 3 hw47_3 ⟨by decide, by decide⟩ rfl (by decide) ?_
      refine x_aload_n (i := 0) (b := 106) dX12_look_105 rfl rfl rfl ?_
      refine x_getL (j := 0) (t := (92, 0, true)) (b := 109) fk_X12_111 dX12_look_106 rfl hL rfl rfl rfl ?_
      refine x_iload_n (i := 3) (b := 110) dX12_look_109 rfl rfl rfl ?_
      obtain ⟨hs, hF⟩ := ck_e hF
      refine x_zald (v := gI h3 92 0 x3) (b := 111) ak_92 dX12_look_110 hs rfl rfl ?_
      refine x_if_eq (tgt := 118) (b := 114) dX12_look_111 (by decide) rfl (fun hc => ?_) (fun hc => ?_)
      · replace hF := br_T hc hF
        refine x_iconst (n := 0) (b := 119) dX12_look_118 (by decide) rfl ?_
        refine x_ireturn dX12_look_119 rfl ⟨Nat.le_refl _, Nat.le_refl _⟩ ?_
        cases hF
        exact ⟨rfl, rfl, hL⟩
      · replace hF := br_F hc hF
        refine x_iconst (n := 1) (b := 115) dX12_look_114 (by decide) rfl ?_
        refine x_goto (tgt := 119) dX12_look_115 (by decide) ?_
        refine x_ireturn dX12_look_119 rfl ⟨Nat.le_refl _, Nat.le_refl _⟩ ?_
        cases hF
        exact ⟨rfl, rfl, hL⟩
    replace hF := br_F hw47_3 hF
    refine x_tableOut (tgt := 120) dX12_look_47 (by omega) (by decide) ?_
    refine x_iload_n (i := 3) (b := 121) dX12_look_120 rfl rfl rfl ?_
    refine x_iconst (n := 5) (b := 122) dX12_look_121 (by decide) rfl ?_
    refine x_icmp_ge (tgt := 139) (b := 125) dX12_look_122 (by decide) rfl (fun hc => ?_) (fun hc => ?_)
    · replace hF := br_T hc hF
      exact x_dp (ls2 := [none, none, none, none]) trivial (hr_139  h3 hL hF)
    · replace hF := br_F hc hF
      refine x_aload_n (i := 0) (b := 126) dX12_look_125 rfl rfl rfl ?_
      refine x_getL (j := 0) (t := (89, 0, true)) (b := 129) fk_X12_102 dX12_look_126 rfl hL rfl rfl rfl ?_
      refine x_iconst (n := 0) (b := 130) dX12_look_129 (by decide) rfl ?_
      obtain ⟨hs, hF⟩ := ck_e hF
      refine x_iald (v := gI h3 89 0 0) (b := 131) ak_89 dX12_look_130 hs rfl rfl ?_
      refine x_iload_n (i := 3) (b := 132) dX12_look_131 rfl rfl rfl ?_
      refine x_ishr (b := 133) dX12_look_132 rfl ?_
      refine x_iconst (n := 1) (b := 134) dX12_look_133 (by decide) rfl ?_
      refine x_iand (b := 135) dX12_look_134 rfl ?_
      refine x_iconst (n := 1) (b := 136) dX12_look_135 (by decide) rfl ?_
      refine x_icmp_ne (tgt := 143) (b := 139) dX12_look_136 (by decide) rfl (fun hc => ?_) (fun hc => ?_)
      · replace hF := br_F hc hF
        refine x_iconst (n := 0) (b := 144) dX12_look_143 (by decide) rfl ?_
        refine x_ireturn dX12_look_144 rfl ⟨Nat.le_refl _, Nat.le_refl _⟩ ?_
        cases hF
        exact ⟨rfl, rfl, hL⟩
      · replace hF := br_T hc hF
        exact x_dp (ls2 := [none, none, none, none]) trivial (hr_139  h3 hL hF)
  · replace hF := br_F hc hF
    refine x_iconst (n := 0) (b := 41) dX12_look_40 (by decide) rfl ?_
    refine x_ireturn dX12_look_41 rfl ⟨Nat.le_refl _, Nat.le_refl _⟩ ?_
    cases hF
    exact ⟨rfl, rfl, hL⟩
set_option maxHeartbeats 4000000 in
set_option maxRecDepth 100000 in
theorem t_X12_look_3 (E : xE) (d : Nat) (rec : Rk) (r : Int × Hp) (h : Hp) (hL : Lay h) (hF : b_X12_look_3 rec  h = some r) : X E mX12_look (d + 3) (0, 0) (0, 0) 139 [none, none, none, none] [] h (PoI r) := by
  unfold b_X12_look_3 at hF
  refine x_iconst (n := 1) (b := 140) dX12_look_139 (by decide) rfl ?_
  refine x_goto (tgt := 144) dX12_look_140 (by decide) ?_
  refine x_ireturn dX12_look_144 rfl ⟨Nat.le_refl _, Nat.le_refl _⟩ ?_
  cases hF
  exact ⟨rfl, rfl, hL⟩
set_option maxHeartbeats 4000000 in
set_option maxRecDepth 100000 in
theorem u_X12_look (E : xE) (d : Nat) (r : Int × Hp) : ∀ n : Nat, (∀ (x1 x2 : Int) (h : Hp), Lay h → g_X12_look n 0 [x1, x2] h = some r → X E mX12_look (d + 3) (0, 0) (0, 0) 0 [some (xr 12 0), some (xi x1), some (xi x2), none] [] h (PoI r)) ∧ (∀ (x2 x3 : Int) (h : Hp), Lay h → g_X12_look n 1 [x2, x3] h = some r → X E mX12_look (d + 3) (0, 0) (0, 0) 25 [some (xr 12 0), none, some (xi x2), some (xi x3)] [xr 12 0] h (PoI r)) ∧ (∀ (x2 x3 y0 : Int) (h : Hp), Lay h → g_X12_look n 2 [x2, x3, y0] h = some r → X E mX12_look (d + 3) (0, 0) (0, 0) 30 [some (xr 12 0), none, some (xi x2), some (xi x3)] [xi y0, xr 12 0] h (PoI r)) ∧ (∀ (h : Hp), Lay h → g_X12_look n 3 [] h = some r → X E mX12_look (d + 3) (0, 0) (0, 0) 139 [none, none, none, none] [] h (PoI r)) := by
  intro n
  induction n with
  | zero => exact ⟨fun _ _ _ _ hF => no_e (r := r) hF, fun _ _ _ _ hF => no_e (r := r) hF, fun _ _ _ _ _ hF => no_e (r := r) hF, fun _ _ hF => no_e (r := r) hF⟩
  | succ n ih => exact ⟨fun x1 x2 h hL hF => t_X12_look_0 E d (g_X12_look n) r ih.2.1 ih.2.2.1 x1 x2 h hL hF, fun x2 x3 h hL hF => t_X12_look_1 E d (g_X12_look n) r ih.2.2.1 x2 x3 h hL hF, fun x2 x3 y0 h hL hF => t_X12_look_2 E d (g_X12_look n) r ih.2.2.2 x2 x3 y0 h hL hF, fun h hL hF => t_X12_look_3 E d (g_X12_look n) r   h hL hF⟩
theorem c_X12_look (d : Nat) (x1 x2 : Int) (h : Hp) (r : Int × Hp) (hL : Lay h) (hF : f_X12_look x1 x2 h = some r) : Sp mX12_look (d + 3) (0, 0) [xr 12 0, xi x1, xi x2] h (PoI r) :=
  sp_of (by decide) rfl (Nat.le_of_ble_eq_true rfl) (ls := [some (xr 12 0), some (xi x1), some (xi x2), none]) rfl (fun E _ => (u_X12_look E d r FU).1 x1 x2 h hL hF)
theorem dX12_mouthNamed_0 : decode cX12_mouthNamed 0 = .ok (.aload_n 0, 1) := by decide +kernel
theorem dX12_mouthNamed_1 : decode cX12_mouthNamed 1 = .ok (.getfield 44, 3) := by decide +kernel
theorem dX12_mouthNamed_4 : decode cX12_mouthNamed 4 = .ok (.bipush 9, 2) := by decide +kernel
theorem dX12_mouthNamed_6 : decode cX12_mouthNamed 6 = .ok (.aload_n 0, 1) := by decide +kernel
theorem dX12_mouthNamed_7 : decode cX12_mouthNamed 7 = .ok (.bipush 12, 2) := by decide +kernel
theorem dX12_mouthNamed_9 : decode cX12_mouthNamed 9 = .ok (.invokevirtual 266, 3) := by decide +kernel
theorem dX12_mouthNamed_12 : decode cX12_mouthNamed 12 = .ok (.iload_n 1, 1) := by decide +kernel
theorem dX12_mouthNamed_13 : decode cX12_mouthNamed 13 = .ok (.invokestatic 314, 3) := by decide +kernel
theorem dX12_mouthNamed_16 : decode cX12_mouthNamed 16 = .ok (.istore_n 2, 1) := by decide +kernel
theorem dX12_mouthNamed_17 : decode cX12_mouthNamed 17 = .ok (.iload_n 2, 1) := by decide +kernel
theorem dX12_mouthNamed_18 : decode cX12_mouthNamed 18 = .ok (.iconst (-1), 1) := by decide +kernel
theorem dX12_mouthNamed_19 : decode cX12_mouthNamed 19 = .ok (.if_icmp .eq 5, 3) := by decide +kernel
theorem dX12_mouthNamed_22 : decode cX12_mouthNamed 22 = .ok (.iload_n 2, 1) := by decide +kernel
theorem dX12_mouthNamed_23 : decode cX12_mouthNamed 23 = .ok (.ireturn, 1) := by decide +kernel
theorem dX12_mouthNamed_24 : decode cX12_mouthNamed 24 = .ok (.aload_n 0, 1) := by decide +kernel
theorem dX12_mouthNamed_25 : decode cX12_mouthNamed 25 = .ok (.getfield 44, 3) := by decide +kernel
theorem dX12_mouthNamed_28 : decode cX12_mouthNamed 28 = .ok (.bipush 14, 2) := by decide +kernel
theorem dX12_mouthNamed_30 : decode cX12_mouthNamed 30 = .ok (.aload_n 0, 1) := by decide +kernel
theorem dX12_mouthNamed_31 : decode cX12_mouthNamed 31 = .ok (.bipush 13, 2) := by decide +kernel
theorem dX12_mouthNamed_33 : decode cX12_mouthNamed 33 = .ok (.invokevirtual 266, 3) := by decide +kernel
theorem dX12_mouthNamed_36 : decode cX12_mouthNamed 36 = .ok (.iload_n 1, 1) := by decide +kernel
theorem dX12_mouthNamed_37 : decode cX12_mouthNamed 37 = .ok (.invokestatic 314, 3) := by decide +kernel
theorem dX12_mouthNamed_40 : decode cX12_mouthNamed 40 = .ok (.istore_n 2, 1) := by decide +kernel
theorem dX12_mouthNamed_41 : decode cX12_mouthNamed 41 = .ok (.iload_n 2, 1) := by decide +kernel
theorem dX12_mouthNamed_42 : decode cX12_mouthNamed 42 = .ok (.iconst (-1), 1) := by decide +kernel
theorem dX12_mouthNamed_43 : decode cX12_mouthNamed 43 = .ok (.if_icmp .ne 7, 3) := by decide +kernel
theorem dX12_mouthNamed_46 : decode cX12_mouthNamed 46 = .ok (.iconst (-1), 1) := by decide +kernel
theorem dX12_mouthNamed_47 : decode cX12_mouthNamed 47 = .ok (.goto 6, 3) := by decide +kernel
theorem dX12_mouthNamed_50 : decode cX12_mouthNamed 50 = .ok (.iconst 5, 1) := by decide +kernel
theorem dX12_mouthNamed_51 : decode cX12_mouthNamed 51 = .ok (.iload_n 2, 1) := by decide +kernel
theorem dX12_mouthNamed_52 : decode cX12_mouthNamed 52 = .ok (.iadd, 1) := by decide +kernel
theorem dX12_mouthNamed_53 : decode cX12_mouthNamed 53 = .ok (.ireturn, 1) := by decide +kernel
noncomputable def b_X12_mouthNamed_0 (rec : Rk) (x1 : Int) (h : Hp) : Option (Int × Hp) :=
  bd (f_X12_fresher 12 h) fun v1 h2 =>
  bd (f_X12_found_r71 9 v1 x1 h2) fun v3 h4 =>
  if v3 = (-1) then (
    bd (f_X12_fresher 13 h4) fun v5 h6 =>
    bd (f_X12_found_r71 14 v5 x1 h6) fun v7 h8 =>
    if v7 = (-1) then (
      some ((-1), h8)
    ) else (
      ck (-2147483648 ≤ 5 + v7 ∧ 5 + v7 < 2147483648) <|
      some (5 + v7, h8)
    )
  ) else (
    some (v3, h4)
  )
noncomputable def g_X12_mouthNamed (n : Nat) : Rk := Nat.rec (motive := fun _ => Rk) (fun _ _ _ => none) (fun _ rec k l h => if k = 0 then b_X12_mouthNamed_0 rec (l.getD 0 0) h else none) n
noncomputable def f_X12_mouthNamed (x1 : Int) (h : Hp) : Option (Int × Hp) := g_X12_mouthNamed FU 0 [x1] h
set_option maxHeartbeats 4000000 in
set_option maxRecDepth 100000 in
theorem t_X12_mouthNamed_0 (E : xE) (d : Nat) (rec : Rk) (r : Int × Hp) (x1 : Int) (h : Hp) (hL : Lay h) (hF : b_X12_mouthNamed_0 rec x1 h = some r) : X E mX12_mouthNamed (d + 2) (0, 0) (0, 0) 0 [some (xr 12 0), some (xi x1), none] [] h (PoI r) := by
  unfold b_X12_mouthNamed_0 at hF
  refine x_aload_n (i := 0) (b := 1) dX12_mouthNamed_0 rfl rfl rfl ?_
  refine x_getL (j := 0) (t := (71, 0, true)) (b := 4) fk_X12_44 dX12_mouthNamed_1 rfl hL rfl rfl rfl ?_
  refine x_bipush (n := 9) (b := 6) dX12_mouthNamed_4 (by decide) rfl ?_
  refine x_aload_n (i := 0) (b := 7) dX12_mouthNamed_6 rfl rfl rfl ?_
  refine x_bipush (n := 12) (b := 9) dX12_mouthNamed_7 (by decide) rfl ?_
  obtain ⟨v1, h2, hq, hF⟩ := bd_e hF
  refine x_callV (as := [xi 12]) (rest := [xi 9, xr 71 0]) (b := 12) (c_X12_fresher d 12 h _ hL hq) dX12_mouthNamed_9 cw_X12_266 ⟨_, _, rfl, Nat.le_of_ble_eq_true rfl⟩ rfl rfl (Nat.le_of_ble_eq_true rfl) ⟨Nat.le_refl _, Nat.le_refl _⟩ rfl (fun rv hh hp _ => ?_)
  obtain ⟨rfl, rfl, hL⟩ := hp
  refine x_iload_n (i := 1) (b := 13) dX12_mouthNamed_12 rfl rfl rfl ?_
  obtain ⟨v3, h4, hq, hF⟩ := bd_e hF
  refine x_callS (as := [xr 71 0, xi 9, xi v1, xi x1]) (rest := []) (b := 16) (c_X12_found_r71 d 9 v1 x1 h2 _ hL hq) dX12_mouthNamed_13 cw_X12_314 rfl rfl (Nat.le_of_ble_eq_true rfl) ⟨Nat.le_refl _, Nat.le_refl _⟩ rfl (fun rv hh hp _ => ?_)
  obtain ⟨rfl, rfl, hL⟩ := hp
  refine x_istore_n (i := 2) (b := 17) (ls2 := [some (xr 12 0), some (xi x1), some (xi v3)]) dX12_mouthNamed_16 rfl (Nat.le_of_ble_eq_true rfl) rfl rfl ?_
  refine x_iload_n (i := 2) (b := 18) dX12_mouthNamed_17 rfl rfl rfl ?_
  refine x_iconst (n := (-1)) (b := 19) dX12_mouthNamed_18 (by decide) rfl ?_
  refine x_icmp_eq (tgt := 24) (b := 22) dX12_mouthNamed_19 (by decide) rfl (fun hc => ?_) (fun hc => ?_)
  · replace hF := br_T hc hF
    refine x_aload_n (i := 0) (b := 25) dX12_mouthNamed_24 rfl rfl rfl ?_
    refine x_getL (j := 0) (t := (71, 0, true)) (b := 28) fk_X12_44 dX12_mouthNamed_25 rfl hL rfl rfl rfl ?_
    refine x_bipush (n := 14) (b := 30) dX12_mouthNamed_28 (by decide) rfl ?_
    refine x_aload_n (i := 0) (b := 31) dX12_mouthNamed_30 rfl rfl rfl ?_
    refine x_bipush (n := 13) (b := 33) dX12_mouthNamed_31 (by decide) rfl ?_
    obtain ⟨v5, h6, hq, hF⟩ := bd_e hF
    refine x_callV (as := [xi 13]) (rest := [xi 14, xr 71 0]) (b := 36) (c_X12_fresher d 13 h4 _ hL hq) dX12_mouthNamed_33 cw_X12_266 ⟨_, _, rfl, Nat.le_of_ble_eq_true rfl⟩ rfl rfl (Nat.le_of_ble_eq_true rfl) ⟨Nat.le_refl _, Nat.le_refl _⟩ rfl (fun rv hh hp _ => ?_)
    obtain ⟨rfl, rfl, hL⟩ := hp
    refine x_iload_n (i := 1) (b := 37) dX12_mouthNamed_36 rfl rfl rfl ?_
    obtain ⟨v7, h8, hq, hF⟩ := bd_e hF
    refine x_callS (as := [xr 71 0, xi 14, xi v5, xi x1]) (rest := []) (b := 40) (c_X12_found_r71 d 14 v5 x1 h6 _ hL hq) dX12_mouthNamed_37 cw_X12_314 rfl rfl (Nat.le_of_ble_eq_true rfl) ⟨Nat.le_refl _, Nat.le_refl _⟩ rfl (fun rv hh hp _ => ?_)
    obtain ⟨rfl, rfl, hL⟩ := hp
    refine x_istore_n (i := 2) (b := 41) (ls2 := [some (xr 12 0), some (xi x1), some (xi v7)]) dX12_mouthNamed_40 rfl (Nat.le_of_ble_eq_true rfl) rfl rfl ?_
    refine x_iload_n (i := 2) (b := 42) dX12_mouthNamed_41 rfl rfl rfl ?_
    refine x_iconst (n := (-1)) (b := 43) dX12_mouthNamed_42 (by decide) rfl ?_
    refine x_icmp_ne (tgt := 50) (b := 46) dX12_mouthNamed_43 (by decide) rfl (fun hc => ?_) (fun hc => ?_)
    · replace hF := br_F hc hF
      refine x_iconst (n := 5) (b := 51) dX12_mouthNamed_50 (by decide) rfl ?_
      refine x_iload_n (i := 2) (b := 52) dX12_mouthNamed_51 rfl rfl rfl ?_
      obtain ⟨hs, hF⟩ := ck_e hF
      refine x_iadd (b := 53) dX12_mouthNamed_52 hs rfl ?_
      refine x_ireturn dX12_mouthNamed_53 rfl ⟨Nat.le_refl _, Nat.le_refl _⟩ ?_
      cases hF
      exact ⟨rfl, rfl, hL⟩
    · replace hF := br_T hc hF
      refine x_iconst (n := (-1)) (b := 47) dX12_mouthNamed_46 (by decide) rfl ?_
      refine x_goto (tgt := 53) dX12_mouthNamed_47 (by decide) ?_
      refine x_ireturn dX12_mouthNamed_53 rfl ⟨Nat.le_refl _, Nat.le_refl _⟩ ?_
      cases hF
      exact ⟨rfl, rfl, hL⟩
  · replace hF := br_F hc hF
    refine x_iload_n (i := 2) (b := 23) dX12_mouthNamed_22 rfl rfl rfl ?_
    refine x_ireturn dX12_mouthNamed_23 rfl ⟨Nat.le_refl _, Nat.le_refl _⟩ ?_
    cases hF
    exact ⟨rfl, rfl, hL⟩
set_option maxHeartbeats 4000000 in
set_option maxRecDepth 100000 in
theorem u_X12_mouthNamed (E : xE) (d : Nat) (r : Int × Hp) : ∀ n : Nat, (∀ (x1 : Int) (h : Hp), Lay h → g_X12_mouthNamed n 0 [x1] h = some r → X E mX12_mouthNamed (d + 2) (0, 0) (0, 0) 0 [some (xr 12 0), some (xi x1), none] [] h (PoI r)) := by
  intro n
  induction n with
  | zero => exact fun _ _ _ hF => no_e (r := r) hF
  | succ n ih => exact fun x1 h hL hF => t_X12_mouthNamed_0 E d (g_X12_mouthNamed n) r  x1 h hL hF
theorem c_X12_mouthNamed (d : Nat) (x1 : Int) (h : Hp) (r : Int × Hp) (hL : Lay h) (hF : f_X12_mouthNamed x1 h = some r) : Sp mX12_mouthNamed (d + 2) (0, 0) [xr 12 0, xi x1] h (PoI r) :=
  sp_of (by decide) rfl (Nat.le_of_ble_eq_true rfl) (ls := [some (xr 12 0), some (xi x1), none]) rfl (fun E _ => (u_X12_mouthNamed E d r FU) x1 h hL hF)
theorem dX12_named_0 : decode cX12_named 0 = .ok (.aload_n 0, 1) := by decide +kernel
theorem dX12_named_1 : decode cX12_named 1 = .ok (.iconst 0, 1) := by decide +kernel
theorem dX12_named_2 : decode cX12_named 2 = .ok (.putfield 194, 3) := by decide +kernel
theorem dX12_named_5 : decode cX12_named 5 = .ok (.iload_n 1, 1) := by decide +kernel
theorem dX12_named_6 : decode cX12_named 6 = .ok (.ifCond .ne 19, 3) := by decide +kernel
theorem dX12_named_9 : decode cX12_named 9 = .ok (.aload_n 0, 1) := by decide +kernel
theorem dX12_named_10 : decode cX12_named 10 = .ok (.getfield 20, 3) := by decide +kernel
theorem dX12_named_13 : decode cX12_named 13 = .ok (.iconst 0, 1) := by decide +kernel
theorem dX12_named_14 : decode cX12_named 14 = .ok (.aload_n 0, 1) := by decide +kernel
theorem dX12_named_15 : decode cX12_named 15 = .ok (.getfield 13, 3) := by decide +kernel
theorem dX12_named_18 : decode cX12_named 18 = .ok (.iconst 5, 1) := by decide +kernel
theorem dX12_named_19 : decode cX12_named 19 = .ok (.iaload, 1) := by decide +kernel
theorem dX12_named_20 : decode cX12_named 20 = .ok (.iload_n 2, 1) := by decide +kernel
theorem dX12_named_21 : decode cX12_named 21 = .ok (.invokestatic 314, 3) := by decide +kernel
theorem dX12_named_24 : decode cX12_named 24 = .ok (.ireturn, 1) := by decide +kernel
theorem dX12_named_25 : decode cX12_named 25 = .ok (.iload_n 1, 1) := by decide +kernel
theorem dX12_named_26 : decode cX12_named 26 = .ok (.iconst 1, 1) := by decide +kernel
theorem dX12_named_27 : decode cX12_named 27 = .ok (.if_icmp .eq 5, 3) := by decide +kernel
theorem dX12_named_30 : decode cX12_named 30 = .ok (.iconst (-1), 1) := by decide +kernel
theorem dX12_named_31 : decode cX12_named 31 = .ok (.ireturn, 1) := by decide +kernel
theorem dX12_named_32 : decode cX12_named 32 = .ok (.aload_n 0, 1) := by decide +kernel
theorem dX12_named_33 : decode cX12_named 33 = .ok (.getfield 44, 3) := by decide +kernel
theorem dX12_named_36 : decode cX12_named 36 = .ok (.iconst 0, 1) := by decide +kernel
theorem dX12_named_37 : decode cX12_named 37 = .ok (.aload_n 0, 1) := by decide +kernel
theorem dX12_named_38 : decode cX12_named 38 = .ok (.getfield 13, 3) := by decide +kernel
theorem dX12_named_41 : decode cX12_named 41 = .ok (.bipush 12, 2) := by decide +kernel
theorem dX12_named_43 : decode cX12_named 43 = .ok (.iaload, 1) := by decide +kernel
theorem dX12_named_44 : decode cX12_named 44 = .ok (.iload_n 2, 1) := by decide +kernel
theorem dX12_named_45 : decode cX12_named 45 = .ok (.invokestatic 314, 3) := by decide +kernel
theorem dX12_named_48 : decode cX12_named 48 = .ok (.istore_n 3, 1) := by decide +kernel
theorem dX12_named_49 : decode cX12_named 49 = .ok (.iload_n 3, 1) := by decide +kernel
theorem dX12_named_50 : decode cX12_named 50 = .ok (.iconst (-1), 1) := by decide +kernel
theorem dX12_named_51 : decode cX12_named 51 = .ok (.if_icmp .eq 5, 3) := by decide +kernel
theorem dX12_named_54 : decode cX12_named 54 = .ok (.iload_n 3, 1) := by decide +kernel
theorem dX12_named_55 : decode cX12_named 55 = .ok (.ireturn, 1) := by decide +kernel
theorem dX12_named_56 : decode cX12_named 56 = .ok (.aload_n 0, 1) := by decide +kernel
theorem dX12_named_57 : decode cX12_named 57 = .ok (.getfield 44, 3) := by decide +kernel
theorem dX12_named_60 : decode cX12_named 60 = .ok (.iconst 5, 1) := by decide +kernel
theorem dX12_named_61 : decode cX12_named 61 = .ok (.aload_n 0, 1) := by decide +kernel
theorem dX12_named_62 : decode cX12_named 62 = .ok (.getfield 13, 3) := by decide +kernel
theorem dX12_named_65 : decode cX12_named 65 = .ok (.bipush 13, 2) := by decide +kernel
theorem dX12_named_67 : decode cX12_named 67 = .ok (.iaload, 1) := by decide +kernel
theorem dX12_named_68 : decode cX12_named 68 = .ok (.iload_n 2, 1) := by decide +kernel
theorem dX12_named_69 : decode cX12_named 69 = .ok (.invokestatic 314, 3) := by decide +kernel
theorem dX12_named_72 : decode cX12_named 72 = .ok (.istore_n 3, 1) := by decide +kernel
theorem dX12_named_73 : decode cX12_named 73 = .ok (.iload_n 3, 1) := by decide +kernel
theorem dX12_named_74 : decode cX12_named 74 = .ok (.iconst (-1), 1) := by decide +kernel
theorem dX12_named_75 : decode cX12_named 75 = .ok (.if_icmp .ne 7, 3) := by decide +kernel
theorem dX12_named_78 : decode cX12_named 78 = .ok (.iconst (-1), 1) := by decide +kernel
theorem dX12_named_79 : decode cX12_named 79 = .ok (.goto 12, 3) := by decide +kernel
theorem dX12_named_82 : decode cX12_named 82 = .ok (.aload_n 0, 1) := by decide +kernel
theorem dX12_named_83 : decode cX12_named 83 = .ok (.getfield 13, 3) := by decide +kernel
theorem dX12_named_86 : decode cX12_named 86 = .ok (.bipush 12, 2) := by decide +kernel
theorem dX12_named_88 : decode cX12_named 88 = .ok (.iaload, 1) := by decide +kernel
theorem dX12_named_89 : decode cX12_named 89 = .ok (.iload_n 3, 1) := by decide +kernel
theorem dX12_named_90 : decode cX12_named 90 = .ok (.iadd, 1) := by decide +kernel
theorem dX12_named_91 : decode cX12_named 91 = .ok (.ireturn, 1) := by decide +kernel
noncomputable def b_X12_named_0 (rec : Rk) (x1 x2 : Int) (h : Hp) : Option (Int × Hp) :=
  lt (sI h 12 0 0 0) fun h1 =>
  if x1 = 0 then (
    ck (0 ≤ (5 : Int) ∧ (5 : Int) < 30) <|
    bd (f_X12_found_r63 0 (gI h1 61 0 5) x2 h1) fun v2 h3 =>
    some (v2, h3)
  ) else (
    if x1 = 1 then (
      ck (0 ≤ (12 : Int) ∧ (12 : Int) < 30) <|
      bd (f_X12_found_r71 0 (gI h1 61 0 12) x2 h1) fun v4 h5 =>
      if v4 = (-1) then (
        ck (0 ≤ (13 : Int) ∧ (13 : Int) < 30) <|
        bd (f_X12_found_r71 5 (gI h5 61 0 13) x2 h5) fun v6 h7 =>
        if v6 = (-1) then (
          some ((-1), h7)
        ) else (
          ck (0 ≤ (12 : Int) ∧ (12 : Int) < 30) <|
          ck (-2147483648 ≤ (gI h7 61 0 12) + v6 ∧ (gI h7 61 0 12) + v6 < 2147483648) <|
          some ((gI h7 61 0 12) + v6, h7)
        )
      ) else (
        some (v4, h5)
      )
    ) else (
      some ((-1), h1)
    )
  )
noncomputable def g_X12_named (n : Nat) : Rk := Nat.rec (motive := fun _ => Rk) (fun _ _ _ => none) (fun _ rec k l h => if k = 0 then b_X12_named_0 rec (l.getD 0 0) (l.getD 1 0) h else none) n
noncomputable def f_X12_named (x1 x2 : Int) (h : Hp) : Option (Int × Hp) := g_X12_named FU 0 [x1, x2] h
set_option maxHeartbeats 4000000 in
set_option maxRecDepth 100000 in
theorem t_X12_named_0 (E : xE) (d : Nat) (rec : Rk) (r : Int × Hp) (x1 x2 : Int) (h : Hp) (hL : Lay h) (hF : b_X12_named_0 rec x1 x2 h = some r) : X E mX12_named (d + 2) (0, 0) (0, 0) 0 [some (xr 12 0), some (xi x1), some (xi x2), none] [] h (PoI r) := by
  unfold b_X12_named_0 at hF
  refine x_aload_n (i := 0) (b := 1) dX12_named_0 rfl rfl rfl ?_
  refine x_iconst (n := 0) (b := 2) dX12_named_1 (by decide) rfl ?_
  refine x_putI (b := 5) fk_X12_194 dX12_named_2 rfl rfl 0 rfl ?_
  obtain ⟨h1, e_h1, hF⟩ := lt_e hF
  refine x_hp (h2 := h1) e_h1 ?_
  replace hL : Lay h1 := by rw [← e_h1]; exact hL
  refine x_iload_n (i := 1) (b := 6) dX12_named_5 rfl rfl rfl ?_
  refine x_if_ne (tgt := 25) (b := 9) dX12_named_6 (by decide) rfl (fun hc => ?_) (fun hc => ?_)
  · replace hF := br_F hc hF
    refine x_iload_n (i := 1) (b := 26) dX12_named_25 rfl rfl rfl ?_
    refine x_iconst (n := 1) (b := 27) dX12_named_26 (by decide) rfl ?_
    refine x_icmp_eq (tgt := 32) (b := 30) dX12_named_27 (by decide) rfl (fun hc => ?_) (fun hc => ?_)
    · replace hF := br_T hc hF
      refine x_aload_n (i := 0) (b := 33) dX12_named_32 rfl rfl rfl ?_
      refine x_getL (j := 0) (t := (71, 0, true)) (b := 36) fk_X12_44 dX12_named_33 rfl hL rfl rfl rfl ?_
      refine x_iconst (n := 0) (b := 37) dX12_named_36 (by decide) rfl ?_
      refine x_aload_n (i := 0) (b := 38) dX12_named_37 rfl rfl rfl ?_
      refine x_getL (j := 0) (t := (61, 0, true)) (b := 41) fk_X12_13 dX12_named_38 rfl hL rfl rfl rfl ?_
      refine x_bipush (n := 12) (b := 43) dX12_named_41 (by decide) rfl ?_
      obtain ⟨hs, hF⟩ := ck_e hF
      refine x_iald (v := gI h1 61 0 12) (b := 44) ak_61 dX12_named_43 hs rfl rfl ?_
      refine x_iload_n (i := 2) (b := 45) dX12_named_44 rfl rfl rfl ?_
      obtain ⟨v4, h5, hq, hF⟩ := bd_e hF
      refine x_callS (as := [xr 71 0, xi 0, xi (gI h1 61 0 12), xi x2]) (rest := []) (b := 48) (c_X12_found_r71 d 0 (gI h1 61 0 12) x2 h1 _ hL hq) dX12_named_45 cw_X12_314 rfl rfl (Nat.le_of_ble_eq_true rfl) ⟨Nat.le_refl _, Nat.le_refl _⟩ rfl (fun rv hh hp _ => ?_)
      obtain ⟨rfl, rfl, hL⟩ := hp
      refine x_istore_n (i := 3) (b := 49) (ls2 := [some (xr 12 0), some (xi x1), some (xi x2), some (xi v4)]) dX12_named_48 rfl (Nat.le_of_ble_eq_true rfl) rfl rfl ?_
      refine x_iload_n (i := 3) (b := 50) dX12_named_49 rfl rfl rfl ?_
      refine x_iconst (n := (-1)) (b := 51) dX12_named_50 (by decide) rfl ?_
      refine x_icmp_eq (tgt := 56) (b := 54) dX12_named_51 (by decide) rfl (fun hc => ?_) (fun hc => ?_)
      · replace hF := br_T hc hF
        refine x_aload_n (i := 0) (b := 57) dX12_named_56 rfl rfl rfl ?_
        refine x_getL (j := 0) (t := (71, 0, true)) (b := 60) fk_X12_44 dX12_named_57 rfl hL rfl rfl rfl ?_
        refine x_iconst (n := 5) (b := 61) dX12_named_60 (by decide) rfl ?_
        refine x_aload_n (i := 0) (b := 62) dX12_named_61 rfl rfl rfl ?_
        refine x_getL (j := 0) (t := (61, 0, true)) (b := 65) fk_X12_13 dX12_named_62 rfl hL rfl rfl rfl ?_
        refine x_bipush (n := 13) (b := 67) dX12_named_65 (by decide) rfl ?_
        obtain ⟨hs, hF⟩ := ck_e hF
        refine x_iald (v := gI h5 61 0 13) (b := 68) ak_61 dX12_named_67 hs rfl rfl ?_
        refine x_iload_n (i := 2) (b := 69) dX12_named_68 rfl rfl rfl ?_
        obtain ⟨v6, h7, hq, hF⟩ := bd_e hF
        refine x_callS (as := [xr 71 0, xi 5, xi (gI h5 61 0 13), xi x2]) (rest := []) (b := 72) (c_X12_found_r71 d 5 (gI h5 61 0 13) x2 h5 _ hL hq) dX12_named_69 cw_X12_314 rfl rfl (Nat.le_of_ble_eq_true rfl) ⟨Nat.le_refl _, Nat.le_refl _⟩ rfl (fun rv hh hp _ => ?_)
        obtain ⟨rfl, rfl, hL⟩ := hp
        refine x_istore_n (i := 3) (b := 73) (ls2 := [some (xr 12 0), some (xi x1), some (xi x2), some (xi v6)]) dX12_named_72 rfl (Nat.le_of_ble_eq_true rfl) rfl rfl ?_
        refine x_iload_n (i := 3) (b := 74) dX12_named_73 rfl rfl rfl ?_
        refine x_iconst (n := (-1)) (b := 75) dX12_named_74 (by decide) rfl ?_
        refine x_icmp_ne (tgt := 82) (b := 78) dX12_named_75 (by decide) rfl (fun hc => ?_) (fun hc => ?_)
        · replace hF := br_F hc hF
          refine x_aload_n (i := 0) (b := 83) dX12_named_82 rfl rfl rfl ?_
          refine x_getL (j := 0) (t := (61, 0, true)) (b := 86) fk_X12_13 dX12_named_83 rfl hL rfl rfl rfl ?_
          refine x_bipush (n := 12) (b := 88) dX12_named_86 (by decide) rfl ?_
          obtain ⟨hs, hF⟩ := ck_e hF
          refine x_iald (v := gI h7 61 0 12) (b := 89) ak_61 dX12_named_88 hs rfl rfl ?_
          refine x_iload_n (i := 3) (b := 90) dX12_named_89 rfl rfl rfl ?_
          obtain ⟨hs, hF⟩ := ck_e hF
          refine x_iadd (b := 91) dX12_named_90 hs rfl ?_
          refine x_ireturn dX12_named_91 rfl ⟨Nat.le_refl _, Nat.le_refl _⟩ ?_
          cases hF
          exact ⟨rfl, rfl, hL⟩
        · replace hF := br_T hc hF
          refine x_iconst (n := (-1)) (b := 79) dX12_named_78 (by decide) rfl ?_
          refine x_goto (tgt := 91) dX12_named_79 (by decide) ?_
          refine x_ireturn dX12_named_91 rfl ⟨Nat.le_refl _, Nat.le_refl _⟩ ?_
          cases hF
          exact ⟨rfl, rfl, hL⟩
      · replace hF := br_F hc hF
        refine x_iload_n (i := 3) (b := 55) dX12_named_54 rfl rfl rfl ?_
        refine x_ireturn dX12_named_55 rfl ⟨Nat.le_refl _, Nat.le_refl _⟩ ?_
        cases hF
        exact ⟨rfl, rfl, hL⟩
    · replace hF := br_F hc hF
      refine x_iconst (n := (-1)) (b := 31) dX12_named_30 (by decide) rfl ?_
      refine x_ireturn dX12_named_31 rfl ⟨Nat.le_refl _, Nat.le_refl _⟩ ?_
      cases hF
      exact ⟨rfl, rfl, hL⟩
  · replace hF := br_T hc hF
    refine x_aload_n (i := 0) (b := 10) dX12_named_9 rfl rfl rfl ?_
    refine x_getL (j := 0) (t := (63, 0, true)) (b := 13) fk_X12_20 dX12_named_10 rfl hL rfl rfl rfl ?_
    refine x_iconst (n := 0) (b := 14) dX12_named_13 (by decide) rfl ?_
    refine x_aload_n (i := 0) (b := 15) dX12_named_14 rfl rfl rfl ?_
    refine x_getL (j := 0) (t := (61, 0, true)) (b := 18) fk_X12_13 dX12_named_15 rfl hL rfl rfl rfl ?_
    refine x_iconst (n := 5) (b := 19) dX12_named_18 (by decide) rfl ?_
    obtain ⟨hs, hF⟩ := ck_e hF
    refine x_iald (v := gI h1 61 0 5) (b := 20) ak_61 dX12_named_19 hs rfl rfl ?_
    refine x_iload_n (i := 2) (b := 21) dX12_named_20 rfl rfl rfl ?_
    obtain ⟨v2, h3, hq, hF⟩ := bd_e hF
    refine x_callS (as := [xr 63 0, xi 0, xi (gI h1 61 0 5), xi x2]) (rest := []) (b := 24) (c_X12_found_r63 d 0 (gI h1 61 0 5) x2 h1 _ hL hq) dX12_named_21 cw_X12_314 rfl rfl (Nat.le_of_ble_eq_true rfl) ⟨Nat.le_refl _, Nat.le_refl _⟩ rfl (fun rv hh hp _ => ?_)
    obtain ⟨rfl, rfl, hL⟩ := hp
    refine x_ireturn dX12_named_24 rfl ⟨Nat.le_refl _, Nat.le_refl _⟩ ?_
    cases hF
    exact ⟨rfl, rfl, hL⟩
set_option maxHeartbeats 4000000 in
set_option maxRecDepth 100000 in
theorem u_X12_named (E : xE) (d : Nat) (r : Int × Hp) : ∀ n : Nat, (∀ (x1 x2 : Int) (h : Hp), Lay h → g_X12_named n 0 [x1, x2] h = some r → X E mX12_named (d + 2) (0, 0) (0, 0) 0 [some (xr 12 0), some (xi x1), some (xi x2), none] [] h (PoI r)) := by
  intro n
  induction n with
  | zero => exact fun _ _ _ _ hF => no_e (r := r) hF
  | succ n ih => exact fun x1 x2 h hL hF => t_X12_named_0 E d (g_X12_named n) r  x1 x2 h hL hF
theorem c_X12_named (d : Nat) (x1 x2 : Int) (h : Hp) (r : Int × Hp) (hL : Lay h) (hF : f_X12_named x1 x2 h = some r) : Sp mX12_named (d + 2) (0, 0) [xr 12 0, xi x1, xi x2] h (PoI r) :=
  sp_of (by decide) rfl (Nat.le_of_ble_eq_true rfl) (ls := [some (xr 12 0), some (xi x1), some (xi x2), none]) rfl (fun E _ => (u_X12_named E d r FU) x1 x2 h hL hF)
theorem dX12_numeralAtHand_0 : decode cX12_numeralAtHand 0 = .ok (.aload_n 0, 1) := by decide +kernel
theorem dX12_numeralAtHand_1 : decode cX12_numeralAtHand 1 = .ok (.getfield 247, 3) := by decide +kernel
theorem dX12_numeralAtHand_4 : decode cX12_numeralAtHand 4 = .ok (.ifCond .eq 5, 3) := by decide +kernel
theorem dX12_numeralAtHand_7 : decode cX12_numeralAtHand 7 = .ok (.iload_n 1, 1) := by decide +kernel
theorem dX12_numeralAtHand_8 : decode cX12_numeralAtHand 8 = .ok (.ireturn, 1) := by decide +kernel
theorem dX12_numeralAtHand_9 : decode cX12_numeralAtHand 9 = .ok (.aload_n 0, 1) := by decide +kernel
theorem dX12_numeralAtHand_10 : decode cX12_numeralAtHand 10 = .ok (.getfield 213, 3) := by decide +kernel
theorem dX12_numeralAtHand_13 : decode cX12_numeralAtHand 13 = .ok (.iconst 2, 1) := by decide +kernel
theorem dX12_numeralAtHand_14 : decode cX12_numeralAtHand 14 = .ok (.if_icmp .eq 11, 3) := by decide +kernel
theorem dX12_numeralAtHand_17 : decode cX12_numeralAtHand 17 = .ok (.aload_n 0, 1) := by decide +kernel
theorem dX12_numeralAtHand_18 : decode cX12_numeralAtHand 18 = .ok (.iconst 1, 1) := by decide +kernel
theorem dX12_numeralAtHand_19 : decode cX12_numeralAtHand 19 = .ok (.invokevirtual 256, 3) := by decide +kernel
theorem dX12_numeralAtHand_22 : decode cX12_numeralAtHand 22 = .ok (.goto 24, 3) := by decide +kernel
theorem dX12_numeralAtHand_25 : decode cX12_numeralAtHand 25 = .ok (.aload_n 0, 1) := by decide +kernel
theorem dX12_numeralAtHand_26 : decode cX12_numeralAtHand 26 = .ok (.getfield 223, 3) := by decide +kernel
theorem dX12_numeralAtHand_29 : decode cX12_numeralAtHand 29 = .ok (.iload_n 1, 1) := by decide +kernel
theorem dX12_numeralAtHand_30 : decode cX12_numeralAtHand 30 = .ok (.if_icmp .lt 11, 3) := by decide +kernel
theorem dX12_numeralAtHand_33 : decode cX12_numeralAtHand 33 = .ok (.aload_n 0, 1) := by decide +kernel
theorem dX12_numeralAtHand_34 : decode cX12_numeralAtHand 34 = .ok (.getfield 223, 3) := by decide +kernel
theorem dX12_numeralAtHand_37 : decode cX12_numeralAtHand 37 = .ok (.iload_n 2, 1) := by decide +kernel
theorem dX12_numeralAtHand_38 : decode cX12_numeralAtHand 38 = .ok (.if_icmp .le 8, 3) := by decide +kernel
theorem dX12_numeralAtHand_41 : decode cX12_numeralAtHand 41 = .ok (.aload_n 0, 1) := by decide +kernel
theorem dX12_numeralAtHand_42 : decode cX12_numeralAtHand 42 = .ok (.iconst 2, 1) := by decide +kernel
theorem dX12_numeralAtHand_43 : decode cX12_numeralAtHand 43 = .ok (.invokevirtual 256, 3) := by decide +kernel
theorem dX12_numeralAtHand_46 : decode cX12_numeralAtHand 46 = .ok (.aload_n 0, 1) := by decide +kernel
theorem dX12_numeralAtHand_47 : decode cX12_numeralAtHand 47 = .ok (.getfield 247, 3) := by decide +kernel
theorem dX12_numeralAtHand_50 : decode cX12_numeralAtHand 50 = .ok (.ifCond .eq 7, 3) := by decide +kernel
theorem dX12_numeralAtHand_53 : decode cX12_numeralAtHand 53 = .ok (.iload_n 1, 1) := by decide +kernel
theorem dX12_numeralAtHand_54 : decode cX12_numeralAtHand 54 = .ok (.goto 7, 3) := by decide +kernel
theorem dX12_numeralAtHand_57 : decode cX12_numeralAtHand 57 = .ok (.aload_n 0, 1) := by decide +kernel
theorem dX12_numeralAtHand_58 : decode cX12_numeralAtHand 58 = .ok (.getfield 223, 3) := by decide +kernel
theorem dX12_numeralAtHand_61 : decode cX12_numeralAtHand 61 = .ok (.ireturn, 1) := by decide +kernel
noncomputable def b_X12_numeralAtHand_0 (rec : Rk) (x1 x2 : Int) (h : Hp) : Option (Int × Hp) :=
  if (gI h 12 0 32) = 0 then (
    if (gI h 12 0 30) = 2 then (
      if (gI h 12 0 31) < x1 then (
        rec 1 [x1] h
      ) else (
        if (gI h 12 0 31) ≤ x2 then (
          rec 2 [x1] h
        ) else (
          rec 1 [x1] h
        )
      )
    ) else (
      bd (f_X12_wrong 1 h) fun v1 h2 =>
      rec 2 [x1] h2
    )
  ) else (
    some (x1, h)
  )
noncomputable def b_X12_numeralAtHand_1 (rec : Rk) (x1 : Int) (h : Hp) : Option (Int × Hp) :=
  bd (f_X12_wrong 2 h) fun v1 h2 =>
  rec 2 [x1] h2
noncomputable def b_X12_numeralAtHand_2 (rec : Rk) (x1 : Int) (h : Hp) : Option (Int × Hp) :=
  if (gI h 12 0 32) = 0 then (
    some (gI h 12 0 31, h)
  ) else (
    some (x1, h)
  )
noncomputable def g_X12_numeralAtHand (n : Nat) : Rk := Nat.rec (motive := fun _ => Rk) (fun _ _ _ => none) (fun _ rec k l h => if k = 0 then b_X12_numeralAtHand_0 rec (l.getD 0 0) (l.getD 1 0) h else if k = 1 then b_X12_numeralAtHand_1 rec (l.getD 0 0) h else if k = 2 then b_X12_numeralAtHand_2 rec (l.getD 0 0) h else none) n
noncomputable def f_X12_numeralAtHand (x1 x2 : Int) (h : Hp) : Option (Int × Hp) := g_X12_numeralAtHand FU 0 [x1, x2] h
set_option maxHeartbeats 4000000 in
set_option maxRecDepth 100000 in
theorem t_X12_numeralAtHand_0 (E : xE) (d : Nat) (rec : Rk) (r : Int × Hp) (hr_41 : ∀ (x1 : Int) (h : Hp), Lay h → rec 1 [x1] h = some r → X E mX12_numeralAtHand (d + 2) (0, 0) (0, 0) 41 [some (xr 12 0), some (xi x1), none] [] h (PoI r)) (hr_46 : ∀ (x1 : Int) (h : Hp), Lay h → rec 2 [x1] h = some r → X E mX12_numeralAtHand (d + 2) (0, 0) (0, 0) 46 [some (xr 12 0), some (xi x1), none] [] h (PoI r)) (x1 x2 : Int) (h : Hp) (hL : Lay h) (hF : b_X12_numeralAtHand_0 rec x1 x2 h = some r) : X E mX12_numeralAtHand (d + 2) (0, 0) (0, 0) 0 [some (xr 12 0), some (xi x1), some (xi x2)] [] h (PoI r) := by
  unfold b_X12_numeralAtHand_0 at hF
  refine x_aload_n (i := 0) (b := 1) dX12_numeralAtHand_0 rfl rfl rfl ?_
  refine x_getI (v := gI h 12 0 32) (b := 4) fk_X12_247 dX12_numeralAtHand_1 (by decide) rfl rfl ?_
  refine x_if_eq (tgt := 9) (b := 7) dX12_numeralAtHand_4 (by decide) rfl (fun hc => ?_) (fun hc => ?_)
  · replace hF := br_T hc hF
    refine x_aload_n (i := 0) (b := 10) dX12_numeralAtHand_9 rfl rfl rfl ?_
    refine x_getI (v := gI h 12 0 30) (b := 13) fk_X12_213 dX12_numeralAtHand_10 (by decide) rfl rfl ?_
    refine x_iconst (n := 2) (b := 14) dX12_numeralAtHand_13 (by decide) rfl ?_
    refine x_icmp_eq (tgt := 25) (b := 17) dX12_numeralAtHand_14 (by decide) rfl (fun hc => ?_) (fun hc => ?_)
    · replace hF := br_T hc hF
      refine x_aload_n (i := 0) (b := 26) dX12_numeralAtHand_25 rfl rfl rfl ?_
      refine x_getI (v := gI h 12 0 31) (b := 29) fk_X12_223 dX12_numeralAtHand_26 (by decide) rfl rfl ?_
      refine x_iload_n (i := 1) (b := 30) dX12_numeralAtHand_29 rfl rfl rfl ?_
      refine x_icmp_lt (tgt := 41) (b := 33) dX12_numeralAtHand_30 (by decide) rfl (fun hc => ?_) (fun hc => ?_)
      · replace hF := br_T hc hF
        exact x_dp (ls2 := [some (xr 12 0), some (xi x1), none]) ⟨rfl, rfl, trivial⟩ (hr_41 x1 h hL hF)
      · replace hF := br_F hc hF
        refine x_aload_n (i := 0) (b := 34) dX12_numeralAtHand_33 rfl rfl rfl ?_
        refine x_getI (v := gI h 12 0 31) (b := 37) fk_X12_223 dX12_numeralAtHand_34 (by decide) rfl rfl ?_
        refine x_iload_n (i := 2) (b := 38) dX12_numeralAtHand_37 rfl rfl rfl ?_
        refine x_icmp_le (tgt := 46) (b := 41) dX12_numeralAtHand_38 (by decide) rfl (fun hc => ?_) (fun hc => ?_)
        · replace hF := br_T hc hF
          exact x_dp (ls2 := [some (xr 12 0), some (xi x1), none]) ⟨rfl, rfl, trivial⟩ (hr_46 x1 h hL hF)
        · replace hF := br_F hc hF
          exact x_dp (ls2 := [some (xr 12 0), some (xi x1), none]) ⟨rfl, rfl, trivial⟩ (hr_41 x1 h hL hF)
    · replace hF := br_F hc hF
      refine x_aload_n (i := 0) (b := 18) dX12_numeralAtHand_17 rfl rfl rfl ?_
      refine x_iconst (n := 1) (b := 19) dX12_numeralAtHand_18 (by decide) rfl ?_
      obtain ⟨v1, h2, hq, hF⟩ := bd_e hF
      refine x_callV (as := [xi 1]) (rest := []) (b := 22) (c_X12_wrong d 1 h _ hL hq) dX12_numeralAtHand_19 cw_X12_256 ⟨_, _, rfl, Nat.le_of_ble_eq_true rfl⟩ rfl rfl (Nat.le_of_ble_eq_true rfl) ⟨Nat.le_refl _, Nat.le_refl _⟩ rfl (fun rv hh hp _ => ?_)
      obtain ⟨rfl, rfl, hL⟩ := hp
      refine x_goto (tgt := 46) dX12_numeralAtHand_22 (by decide) ?_
      exact x_dp (ls2 := [some (xr 12 0), some (xi x1), none]) ⟨rfl, rfl, trivial⟩ (hr_46 x1 h2 hL hF)
  · replace hF := br_F hc hF
    refine x_iload_n (i := 1) (b := 8) dX12_numeralAtHand_7 rfl rfl rfl ?_
    refine x_ireturn dX12_numeralAtHand_8 rfl ⟨Nat.le_refl _, Nat.le_refl _⟩ ?_
    cases hF
    exact ⟨rfl, rfl, hL⟩
set_option maxHeartbeats 4000000 in
set_option maxRecDepth 100000 in
theorem t_X12_numeralAtHand_1 (E : xE) (d : Nat) (rec : Rk) (r : Int × Hp) (hr_46 : ∀ (x1 : Int) (h : Hp), Lay h → rec 2 [x1] h = some r → X E mX12_numeralAtHand (d + 2) (0, 0) (0, 0) 46 [some (xr 12 0), some (xi x1), none] [] h (PoI r)) (x1 : Int) (h : Hp) (hL : Lay h) (hF : b_X12_numeralAtHand_1 rec x1 h = some r) : X E mX12_numeralAtHand (d + 2) (0, 0) (0, 0) 41 [some (xr 12 0), some (xi x1), none] [] h (PoI r) := by
  unfold b_X12_numeralAtHand_1 at hF
  refine x_aload_n (i := 0) (b := 42) dX12_numeralAtHand_41 rfl rfl rfl ?_
  refine x_iconst (n := 2) (b := 43) dX12_numeralAtHand_42 (by decide) rfl ?_
  obtain ⟨v1, h2, hq, hF⟩ := bd_e hF
  refine x_callV (as := [xi 2]) (rest := []) (b := 46) (c_X12_wrong d 2 h _ hL hq) dX12_numeralAtHand_43 cw_X12_256 ⟨_, _, rfl, Nat.le_of_ble_eq_true rfl⟩ rfl rfl (Nat.le_of_ble_eq_true rfl) ⟨Nat.le_refl _, Nat.le_refl _⟩ rfl (fun rv hh hp _ => ?_)
  obtain ⟨rfl, rfl, hL⟩ := hp
  exact x_dp (ls2 := [some (xr 12 0), some (xi x1), none]) ⟨rfl, rfl, trivial⟩ (hr_46 x1 h2 hL hF)
set_option maxHeartbeats 4000000 in
set_option maxRecDepth 100000 in
theorem t_X12_numeralAtHand_2 (E : xE) (d : Nat) (rec : Rk) (r : Int × Hp) (x1 : Int) (h : Hp) (hL : Lay h) (hF : b_X12_numeralAtHand_2 rec x1 h = some r) : X E mX12_numeralAtHand (d + 2) (0, 0) (0, 0) 46 [some (xr 12 0), some (xi x1), none] [] h (PoI r) := by
  unfold b_X12_numeralAtHand_2 at hF
  refine x_aload_n (i := 0) (b := 47) dX12_numeralAtHand_46 rfl rfl rfl ?_
  refine x_getI (v := gI h 12 0 32) (b := 50) fk_X12_247 dX12_numeralAtHand_47 (by decide) rfl rfl ?_
  refine x_if_eq (tgt := 57) (b := 53) dX12_numeralAtHand_50 (by decide) rfl (fun hc => ?_) (fun hc => ?_)
  · replace hF := br_T hc hF
    refine x_aload_n (i := 0) (b := 58) dX12_numeralAtHand_57 rfl rfl rfl ?_
    refine x_getI (v := gI h 12 0 31) (b := 61) fk_X12_223 dX12_numeralAtHand_58 (by decide) rfl rfl ?_
    refine x_ireturn dX12_numeralAtHand_61 rfl ⟨Nat.le_refl _, Nat.le_refl _⟩ ?_
    cases hF
    exact ⟨rfl, rfl, hL⟩
  · replace hF := br_F hc hF
    refine x_iload_n (i := 1) (b := 54) dX12_numeralAtHand_53 rfl rfl rfl ?_
    refine x_goto (tgt := 61) dX12_numeralAtHand_54 (by decide) ?_
    refine x_ireturn dX12_numeralAtHand_61 rfl ⟨Nat.le_refl _, Nat.le_refl _⟩ ?_
    cases hF
    exact ⟨rfl, rfl, hL⟩
set_option maxHeartbeats 4000000 in
set_option maxRecDepth 100000 in
theorem u_X12_numeralAtHand (E : xE) (d : Nat) (r : Int × Hp) : ∀ n : Nat, (∀ (x1 x2 : Int) (h : Hp), Lay h → g_X12_numeralAtHand n 0 [x1, x2] h = some r → X E mX12_numeralAtHand (d + 2) (0, 0) (0, 0) 0 [some (xr 12 0), some (xi x1), some (xi x2)] [] h (PoI r)) ∧ (∀ (x1 : Int) (h : Hp), Lay h → g_X12_numeralAtHand n 1 [x1] h = some r → X E mX12_numeralAtHand (d + 2) (0, 0) (0, 0) 41 [some (xr 12 0), some (xi x1), none] [] h (PoI r)) ∧ (∀ (x1 : Int) (h : Hp), Lay h → g_X12_numeralAtHand n 2 [x1] h = some r → X E mX12_numeralAtHand (d + 2) (0, 0) (0, 0) 46 [some (xr 12 0), some (xi x1), none] [] h (PoI r)) := by
  intro n
  induction n with
  | zero => exact ⟨fun _ _ _ _ hF => no_e (r := r) hF, fun _ _ _ hF => no_e (r := r) hF, fun _ _ _ hF => no_e (r := r) hF⟩
  | succ n ih => exact ⟨fun x1 x2 h hL hF => t_X12_numeralAtHand_0 E d (g_X12_numeralAtHand n) r ih.2.1 ih.2.2 x1 x2 h hL hF, fun x1 h hL hF => t_X12_numeralAtHand_1 E d (g_X12_numeralAtHand n) r ih.2.2 x1 h hL hF, fun x1 h hL hF => t_X12_numeralAtHand_2 E d (g_X12_numeralAtHand n) r  x1 h hL hF⟩
theorem c_X12_numeralAtHand (d : Nat) (x1 x2 : Int) (h : Hp) (r : Int × Hp) (hL : Lay h) (hF : f_X12_numeralAtHand x1 x2 h = some r) : Sp mX12_numeralAtHand (d + 2) (0, 0) [xr 12 0, xi x1, xi x2] h (PoI r) :=
  sp_of (by decide) rfl (Nat.le_of_ble_eq_true rfl) (ls := [some (xr 12 0), some (xi x1), some (xi x2)]) rfl (fun E _ => (u_X12_numeralAtHand E d r FU).1 x1 x2 h hL hF)
theorem dX12_power_0 : decode cX12_power 0 = .ok (.aload_n 0, 1) := by decide +kernel
theorem dX12_power_1 : decode cX12_power 1 = .ok (.iconst 0, 1) := by decide +kernel
theorem dX12_power_2 : decode cX12_power 2 = .ok (.putfield 194, 3) := by decide +kernel
theorem dX12_power_5 : decode cX12_power 5 = .ok (.aload_n 0, 1) := by decide +kernel
theorem dX12_power_6 : decode cX12_power 6 = .ok (.iload_n 1, 1) := by decide +kernel
theorem dX12_power_7 : decode cX12_power 7 = .ok (.invokevirtual 452, 3) := by decide +kernel
theorem dX12_power_10 : decode cX12_power 10 = .ok (.istore_n 3, 1) := by decide +kernel
theorem dX12_power_11 : decode cX12_power 11 = .ok (.aload_n 0, 1) := by decide +kernel
theorem dX12_power_12 : decode cX12_power 12 = .ok (.invokevirtual 455, 3) := by decide +kernel
theorem dX12_power_15 : decode cX12_power 15 = .ok (.iload_n 3, 1) := by decide +kernel
theorem dX12_power_16 : decode cX12_power 16 = .ok (.iconst (-1), 1) := by decide +kernel
theorem dX12_power_17 : decode cX12_power 17 = .ok (.if_icmp .eq 21, 3) := by decide +kernel
theorem dX12_power_20 : decode cX12_power 20 = .ok (.iload_n 2, 1) := by decide +kernel
theorem dX12_power_21 : decode cX12_power 21 = .ok (.ifCond .lt 17, 3) := by decide +kernel
theorem dX12_power_24 : decode cX12_power 24 = .ok (.iload_n 2, 1) := by decide +kernel
theorem dX12_power_25 : decode cX12_power 25 = .ok (.iconst 1, 1) := by decide +kernel
theorem dX12_power_26 : decode cX12_power 26 = .ok (.if_icmp .gt 12, 3) := by decide +kernel
theorem dX12_power_29 : decode cX12_power 29 = .ok (.aload_n 0, 1) := by decide +kernel
theorem dX12_power_30 : decode cX12_power 30 = .ok (.iconst 0, 1) := by decide +kernel
theorem dX12_power_31 : decode cX12_power 31 = .ok (.iload_n 3, 1) := by decide +kernel
theorem dX12_power_32 : decode cX12_power 32 = .ok (.invokevirtual 422, 3) := by decide +kernel
theorem dX12_power_35 : decode cX12_power 35 = .ok (.ifCond .ne 5, 3) := by decide +kernel
theorem dX12_power_38 : decode cX12_power 38 = .ok (.iconst (-1), 1) := by decide +kernel
theorem dX12_power_39 : decode cX12_power 39 = .ok (.ireturn, 1) := by decide +kernel
theorem dX12_power_40 : decode cX12_power 40 = .ok (.iconst 0, 1) := by decide +kernel
theorem dX12_power_41 : decode cX12_power 41 = .ok (.istore 4, 2) := by decide +kernel
theorem dX12_power_43 : decode cX12_power 43 = .ok (.iconst 0, 1) := by decide +kernel
theorem dX12_power_44 : decode cX12_power 44 = .ok (.istore 5, 2) := by decide +kernel
theorem dX12_power_46 : decode cX12_power 46 = .ok (.iconst 0, 1) := by decide +kernel
theorem dX12_power_47 : decode cX12_power 47 = .ok (.istore 6, 2) := by decide +kernel
theorem dX12_power_49 : decode cX12_power 49 = .ok (.iload 6, 2) := by decide +kernel
theorem dX12_power_51 : decode cX12_power 51 = .ok (.bipush 9, 2) := by decide +kernel
theorem dX12_power_53 : decode cX12_power 53 = .ok (.if_icmp .ge 43, 3) := by decide +kernel
theorem dX12_power_56 : decode cX12_power 56 = .ok (.aload_n 0, 1) := by decide +kernel
theorem dX12_power_57 : decode cX12_power 57 = .ok (.iconst 0, 1) := by decide +kernel
theorem dX12_power_58 : decode cX12_power 58 = .ok (.iload 6, 2) := by decide +kernel
theorem dX12_power_60 : decode cX12_power 60 = .ok (.invokevirtual 422, 3) := by decide +kernel
theorem dX12_power_63 : decode cX12_power 63 = .ok (.ifCond .ne 6, 3) := by decide +kernel
theorem dX12_power_66 : decode cX12_power 66 = .ok (.goto 24, 3) := by decide +kernel
theorem dX12_power_69 : decode cX12_power 69 = .ok (.iload 4, 2) := by decide +kernel
theorem dX12_power_71 : decode cX12_power 71 = .ok (.iconst 1, 1) := by decide +kernel
theorem dX12_power_72 : decode cX12_power 72 = .ok (.iload 6, 2) := by decide +kernel
theorem dX12_power_74 : decode cX12_power 74 = .ok (.ishl, 1) := by decide +kernel
theorem dX12_power_75 : decode cX12_power 75 = .ok (.ior, 1) := by decide +kernel
theorem dX12_power_76 : decode cX12_power 76 = .ok (.istore 4, 2) := by decide +kernel
theorem dX12_power_78 : decode cX12_power 78 = .ok (.iload 5, 2) := by decide +kernel
theorem dX12_power_80 : decode cX12_power 80 = .ok (.aload_n 0, 1) := by decide +kernel
theorem dX12_power_81 : decode cX12_power 81 = .ok (.iconst 0, 1) := by decide +kernel
theorem dX12_power_82 : decode cX12_power 82 = .ok (.iload 6, 2) := by decide +kernel
theorem dX12_power_84 : decode cX12_power 84 = .ok (.invokevirtual 426, 3) := by decide +kernel
theorem dX12_power_87 : decode cX12_power 87 = .ok (.iadd, 1) := by decide +kernel
theorem dX12_power_88 : decode cX12_power 88 = .ok (.istore 5, 2) := by decide +kernel
theorem dX12_power_90 : decode cX12_power 90 = .ok (.iinc 6 1, 3) := by decide +kernel
theorem dX12_power_93 : decode cX12_power 93 = .ok (.goto (-44), 3) := by decide +kernel
theorem dX12_power_96 : decode cX12_power 96 = .ok (.iload 4, 2) := by decide +kernel
theorem dX12_power_98 : decode cX12_power 98 = .ok (.invokestatic 486, 3) := by decide +kernel
theorem dX12_power_101 : decode cX12_power 101 = .ok (.istore 6, 2) := by decide +kernel
theorem dX12_power_103 : decode cX12_power 103 = .ok (.iconst 0, 1) := by decide +kernel
theorem dX12_power_104 : decode cX12_power 104 = .ok (.istore 7, 2) := by decide +kernel
theorem dX12_power_106 : decode cX12_power 106 = .ok (.iconst 0, 1) := by decide +kernel
theorem dX12_power_107 : decode cX12_power 107 = .ok (.istore 8, 2) := by decide +kernel
theorem dX12_power_109 : decode cX12_power 109 = .ok (.iload 8, 2) := by decide +kernel
theorem dX12_power_111 : decode cX12_power 111 = .ok (.sipush 512, 3) := by decide +kernel
theorem dX12_power_114 : decode cX12_power 114 = .ok (.if_icmp .ge 130, 3) := by decide +kernel
theorem dX12_power_117 : decode cX12_power 117 = .ok (.iload 8, 2) := by decide +kernel
theorem dX12_power_119 : decode cX12_power 119 = .ok (.iload 4, 2) := by decide +kernel
theorem dX12_power_121 : decode cX12_power 121 = .ok (.iconst (-1), 1) := by decide +kernel
theorem dX12_power_122 : decode cX12_power 122 = .ok (.ixor, 1) := by decide +kernel
theorem dX12_power_123 : decode cX12_power 123 = .ok (.iand, 1) := by decide +kernel
theorem dX12_power_124 : decode cX12_power 124 = .ok (.ifCond .ne 114, 3) := by decide +kernel
theorem dX12_power_127 : decode cX12_power 127 = .ok (.iload 8, 2) := by decide +kernel
theorem dX12_power_129 : decode cX12_power 129 = .ok (.iload_n 3, 1) := by decide +kernel
theorem dX12_power_130 : decode cX12_power 130 = .ok (.ishr, 1) := by decide +kernel
theorem dX12_power_131 : decode cX12_power 131 = .ok (.iconst 1, 1) := by decide +kernel
theorem dX12_power_132 : decode cX12_power 132 = .ok (.iand, 1) := by decide +kernel
theorem dX12_power_133 : decode cX12_power 133 = .ok (.iconst 1, 1) := by decide +kernel
theorem dX12_power_134 : decode cX12_power 134 = .ok (.if_icmp .ne 6, 3) := by decide +kernel
theorem dX12_power_137 : decode cX12_power 137 = .ok (.goto 101, 3) := by decide +kernel
theorem dX12_power_140 : decode cX12_power 140 = .ok (.iconst 0, 1) := by decide +kernel
theorem dX12_power_141 : decode cX12_power 141 = .ok (.istore 9, 2) := by decide +kernel
theorem dX12_power_143 : decode cX12_power 143 = .ok (.iconst 0, 1) := by decide +kernel
theorem dX12_power_144 : decode cX12_power 144 = .ok (.istore 10, 2) := by decide +kernel
theorem dX12_power_146 : decode cX12_power 146 = .ok (.iload 10, 2) := by decide +kernel
theorem dX12_power_148 : decode cX12_power 148 = .ok (.bipush 9, 2) := by decide +kernel
theorem dX12_power_150 : decode cX12_power 150 = .ok (.if_icmp .ge 36, 3) := by decide +kernel
theorem dX12_power_153 : decode cX12_power 153 = .ok (.iload 9, 2) := by decide +kernel
theorem dX12_power_155 : decode cX12_power 155 = .ok (.iload 8, 2) := by decide +kernel
theorem dX12_power_157 : decode cX12_power 157 = .ok (.iload 10, 2) := by decide +kernel
theorem dX12_power_159 : decode cX12_power 159 = .ok (.ishr, 1) := by decide +kernel
theorem dX12_power_160 : decode cX12_power 160 = .ok (.iconst 1, 1) := by decide +kernel
theorem dX12_power_161 : decode cX12_power 161 = .ok (.iand, 1) := by decide +kernel
theorem dX12_power_162 : decode cX12_power 162 = .ok (.iconst 1, 1) := by decide +kernel
theorem dX12_power_163 : decode cX12_power 163 = .ok (.if_icmp .ne 13, 3) := by decide +kernel
theorem dX12_power_166 : decode cX12_power 166 = .ok (.aload_n 0, 1) := by decide +kernel
theorem dX12_power_167 : decode cX12_power 167 = .ok (.iconst 0, 1) := by decide +kernel
theorem dX12_power_168 : decode cX12_power 168 = .ok (.iload 10, 2) := by decide +kernel
theorem dX12_power_170 : decode cX12_power 170 = .ok (.invokevirtual 426, 3) := by decide +kernel
theorem dX12_power_173 : decode cX12_power 173 = .ok (.goto 4, 3) := by decide +kernel
theorem dX12_power_176 : decode cX12_power 176 = .ok (.iconst 0, 1) := by decide +kernel
theorem dX12_power_177 : decode cX12_power 177 = .ok (.iadd, 1) := by decide +kernel
theorem dX12_power_178 : decode cX12_power 178 = .ok (.istore 9, 2) := by decide +kernel
theorem dX12_power_180 : decode cX12_power 180 = .ok (.iinc 10 1, 3) := by decide +kernel
theorem dX12_power_183 : decode cX12_power 183 = .ok (.goto (-37), 3) := by decide +kernel
theorem dX12_power_186 : decode cX12_power 186 = .ok (.iconst 2, 1) := by decide +kernel
theorem dX12_power_187 : decode cX12_power 187 = .ok (.iload 9, 2) := by decide +kernel
theorem dX12_power_189 : decode cX12_power 189 = .ok (.imul, 1) := by decide +kernel
theorem dX12_power_190 : decode cX12_power 190 = .ok (.iload 5, 2) := by decide +kernel
theorem dX12_power_192 : decode cX12_power 192 = .ok (.if_icmp .gt 46, 3) := by decide +kernel
theorem dX12_power_195 : decode cX12_power 195 = .ok (.iconst 2, 1) := by decide +kernel
theorem dX12_power_196 : decode cX12_power 196 = .ok (.iload 9, 2) := by decide +kernel
theorem dX12_power_198 : decode cX12_power 198 = .ok (.aload_n 0, 1) := by decide +kernel
theorem dX12_power_199 : decode cX12_power 199 = .ok (.iconst 0, 1) := by decide +kernel
theorem dX12_power_200 : decode cX12_power 200 = .ok (.iload_n 3, 1) := by decide +kernel
theorem dX12_power_201 : decode cX12_power 201 = .ok (.invokevirtual 426, 3) := by decide +kernel
theorem dX12_power_204 : decode cX12_power 204 = .ok (.iadd, 1) := by decide +kernel
theorem dX12_power_205 : decode cX12_power 205 = .ok (.imul, 1) := by decide +kernel
theorem dX12_power_206 : decode cX12_power 206 = .ok (.iload 5, 2) := by decide +kernel
theorem dX12_power_208 : decode cX12_power 208 = .ok (.if_icmp .le 30, 3) := by decide +kernel
theorem dX12_power_211 : decode cX12_power 211 = .ok (.iload 7, 2) := by decide +kernel
theorem dX12_power_213 : decode cX12_power 213 = .ok (.iload 8, 2) := by decide +kernel
theorem dX12_power_215 : decode cX12_power 215 = .ok (.invokestatic 486, 3) := by decide +kernel
theorem dX12_power_218 : decode cX12_power 218 = .ok (.invokestatic 489, 3) := by decide +kernel
theorem dX12_power_221 : decode cX12_power 221 = .ok (.iload 6, 2) := by decide +kernel
theorem dX12_power_223 : decode cX12_power 223 = .ok (.iconst 1, 1) := by decide +kernel
theorem dX12_power_224 : decode cX12_power 224 = .ok (.isub, 1) := by decide +kernel
theorem dX12_power_225 : decode cX12_power 225 = .ok (.iload 8, 2) := by decide +kernel
theorem dX12_power_227 : decode cX12_power 227 = .ok (.invokestatic 486, 3) := by decide +kernel
theorem dX12_power_230 : decode cX12_power 230 = .ok (.isub, 1) := by decide +kernel
theorem dX12_power_231 : decode cX12_power 231 = .ok (.invokestatic 489, 3) := by decide +kernel
theorem dX12_power_234 : decode cX12_power 234 = .ok (.imul, 1) := by decide +kernel
theorem dX12_power_235 : decode cX12_power 235 = .ok (.iadd, 1) := by decide +kernel
theorem dX12_power_236 : decode cX12_power 236 = .ok (.istore 7, 2) := by decide +kernel
theorem dX12_power_238 : decode cX12_power 238 = .ok (.iinc 8 1, 3) := by decide +kernel
theorem dX12_power_241 : decode cX12_power 241 = .ok (.goto (-132), 3) := by decide +kernel
theorem dX12_power_244 : decode cX12_power 244 = .ok (.iload 7, 2) := by decide +kernel
theorem dX12_power_246 : decode cX12_power 246 = .ok (.iload 6, 2) := by decide +kernel
theorem dX12_power_248 : decode cX12_power 248 = .ok (.invokestatic 489, 3) := by decide +kernel
theorem dX12_power_251 : decode cX12_power 251 = .ok (.invokestatic 492, 3) := by decide +kernel
theorem dX12_power_254 : decode cX12_power 254 = .ok (.istore 8, 2) := by decide +kernel
theorem dX12_power_256 : decode cX12_power 256 = .ok (.iload_n 2, 1) := by decide +kernel
theorem dX12_power_257 : decode cX12_power 257 = .ok (.ifCond .ne 11, 3) := by decide +kernel
theorem dX12_power_260 : decode cX12_power 260 = .ok (.iload 7, 2) := by decide +kernel
theorem dX12_power_262 : decode cX12_power 262 = .ok (.iload 8, 2) := by decide +kernel
theorem dX12_power_264 : decode cX12_power 264 = .ok (.idiv, 1) := by decide +kernel
theorem dX12_power_265 : decode cX12_power 265 = .ok (.goto 11, 3) := by decide +kernel
theorem dX12_power_268 : decode cX12_power 268 = .ok (.iload 6, 2) := by decide +kernel
theorem dX12_power_270 : decode cX12_power 270 = .ok (.invokestatic 489, 3) := by decide +kernel
theorem dX12_power_273 : decode cX12_power 273 = .ok (.iload 8, 2) := by decide +kernel
theorem dX12_power_275 : decode cX12_power 275 = .ok (.idiv, 1) := by decide +kernel
theorem dX12_power_276 : decode cX12_power 276 = .ok (.ireturn, 1) := by decide +kernel
noncomputable def b_X12_power_0 (rec : Rk) (x1 x2 : Int) (h : Hp) : Option (Int × Hp) :=
  lt (sI h 12 0 0 0) fun h1 =>
  bd (f_X12_slot x1 h1) fun v2 h3 =>
  bd (f_X12_plain h3) fun v4 h5 =>
  if v2 = (-1) then (
    some ((-1), h5)
  ) else (
    if x2 < 0 then (
      some ((-1), h5)
    ) else (
      if 1 < x2 then (
        some ((-1), h5)
      ) else (
        bd (f_X12_isAboard 0 v2 h5) fun v6 h7 =>
        if v6 = 0 then (
          some ((-1), h7)
        ) else (
          rec 1 [x2, v2, 0, 0, 0] h7
        )
      )
    )
  )
noncomputable def b_X12_power_1 (rec : Rk) (x2 x3 x4 x5 x6 : Int) (h : Hp) : Option (Int × Hp) :=
  if 9 ≤ x6 then (
    bd (f_X12_bitsOf x4 h) fun v1 h2 =>
    rec 3 [x2, x3, x4, x5, v1, 0, 0] h2
  ) else (
    bd (f_X12_isAboard 0 x6 h) fun v3 h4 =>
    if v3 = 0 then (
      rec 2 [x2, x3, x4, x5, x6] h4
    ) else (
      lt (bor x4 (bshl 1 x6)) fun z5 =>
      bd (f_X12_platesOf 0 x6 h4) fun v6 h7 =>
      ck (-2147483648 ≤ x5 + v6 ∧ x5 + v6 < 2147483648) <|
      lt (x5 + v6) fun z8 =>
      rec 2 [x2, x3, z5, z8, x6] h7
    )
  )
noncomputable def b_X12_power_2 (rec : Rk) (x2 x3 x4 x5 x6 : Int) (h : Hp) : Option (Int × Hp) :=
  ck (-2147483648 ≤ x6 + 1 ∧ x6 + 1 < 2147483648) <|
  rec 1 [x2, x3, x4, x5, x6 + 1] h
noncomputable def b_X12_power_3 (rec : Rk) (x2 x3 x4 x5 x6 x7 x8 : Int) (h : Hp) : Option (Int × Hp) :=
  if 512 ≤ x8 then (
    bd (f_X12_factorial x6 h) fun v1 h2 =>
    bd (f_X12_common x7 v1 h2) fun v3 h4 =>
    if x2 = 0 then (
      ck ((0 : Int) ≤ x7 ∧ (0 : Int) < v3) <|
      some (x7 / v3, h4)
    ) else (
      bd (f_X12_factorial x6 h4) fun v5 h6 =>
      ck ((0 : Int) ≤ v5 ∧ (0 : Int) < v3) <|
      some (v5 / v3, h6)
    )
  ) else (
    if (band x8 (bxor x4 (-1))) = 0 then (
      if (band (bshr x8 x3) 1) = 1 then (
        rec 6 [x2, x3, x4, x5, x6, x7, x8] h
      ) else (
        rec 4 [x2, x3, x4, x5, x6, x7, x8, 0, 0] h
      )
    ) else (
      rec 6 [x2, x3, x4, x5, x6, x7, x8] h
    )
  )
noncomputable def b_X12_power_4 (rec : Rk) (x2 x3 x4 x5 x6 x7 x8 x9 x10 : Int) (h : Hp) : Option (Int × Hp) :=
  if 9 ≤ x10 then (
    ck (-2147483648 ≤ 2 * x9 ∧ 2 * x9 < 2147483648) <|
    if x5 < (2 * x9) then (
      rec 6 [x2, x3, x4, x5, x6, x7, x8] h
    ) else (
      bd (f_X12_platesOf 0 x3 h) fun v1 h2 =>
      ck (-2147483648 ≤ x9 + v1 ∧ x9 + v1 < 2147483648) <|
      ck (-2147483648 ≤ 2 * (x9 + v1) ∧ 2 * (x9 + v1) < 2147483648) <|
      if (2 * (x9 + v1)) ≤ x5 then (
        rec 6 [x2, x3, x4, x5, x6, x7, x8] h2
      ) else (
        bd (f_X12_bitsOf x8 h2) fun v3 h4 =>
        bd (f_X12_factorial v3 h4) fun v5 h6 =>
        ck (-2147483648 ≤ x6 - 1 ∧ x6 - 1 < 2147483648) <|
        bd (f_X12_bitsOf x8 h6) fun v7 h8 =>
        ck (-2147483648 ≤ (x6 - 1) - v7 ∧ (x6 - 1) - v7 < 2147483648) <|
        bd (f_X12_factorial ((x6 - 1) - v7) h8) fun v9 h10 =>
        ck (-2147483648 ≤ v5 * v9 ∧ v5 * v9 < 2147483648) <|
        ck (-2147483648 ≤ x7 + (v5 * v9) ∧ x7 + (v5 * v9) < 2147483648) <|
        lt (x7 + (v5 * v9)) fun z11 =>
        rec 6 [x2, x3, x4, x5, x6, z11, x8] h10
      )
    )
  ) else (
    if (band (bshr x8 x10) 1) = 1 then (
      bd (f_X12_platesOf 0 x10 h) fun v12 h13 =>
      rec 5 [x2, x3, x4, x5, x6, x7, x8, x10, v12, x9] h13
    ) else (
      rec 5 [x2, x3, x4, x5, x6, x7, x8, x10, 0, x9] h
    )
  )
noncomputable def b_X12_power_5 (rec : Rk) (x2 x3 x4 x5 x6 x7 x8 x10 y0 y1 : Int) (h : Hp) : Option (Int × Hp) :=
  ck (-2147483648 ≤ y1 + y0 ∧ y1 + y0 < 2147483648) <|
  lt (y1 + y0) fun z1 =>
  ck (-2147483648 ≤ x10 + 1 ∧ x10 + 1 < 2147483648) <|
  rec 4 [x2, x3, x4, x5, x6, x7, x8, z1, x10 + 1] h
noncomputable def b_X12_power_6 (rec : Rk) (x2 x3 x4 x5 x6 x7 x8 : Int) (h : Hp) : Option (Int × Hp) :=
  ck (-2147483648 ≤ x8 + 1 ∧ x8 + 1 < 2147483648) <|
  rec 3 [x2, x3, x4, x5, x6, x7, x8 + 1] h
noncomputable def g_X12_power (n : Nat) : Rk := Nat.rec (motive := fun _ => Rk) (fun _ _ _ => none) (fun _ rec k l h => if k = 0 then b_X12_power_0 rec (l.getD 0 0) (l.getD 1 0) h else if k = 1 then b_X12_power_1 rec (l.getD 0 0) (l.getD 1 0) (l.getD 2 0) (l.getD 3 0) (l.getD 4 0) h else if k = 2 then b_X12_power_2 rec (l.getD 0 0) (l.getD 1 0) (l.getD 2 0) (l.getD 3 0) (l.getD 4 0) h else if k = 3 then b_X12_power_3 rec (l.getD 0 0) (l.getD 1 0) (l.getD 2 0) (l.getD 3 0) (l.getD 4 0) (l.getD 5 0) (l.getD 6 0) h else if k = 4 then b_X12_power_4 rec (l.getD 0 0) (l.getD 1 0) (l.getD 2 0) (l.getD 3 0) (l.getD 4 0) (l.getD 5 0) (l.getD 6 0) (l.getD 7 0) (l.getD 8 0) h else if k = 5 then b_X12_power_5 rec (l.getD 0 0) (l.getD 1 0) (l.getD 2 0) (l.getD 3 0) (l.getD 4 0) (l.getD 5 0) (l.getD 6 0) (l.getD 7 0) (l.getD 8 0) (l.getD 9 0) h else if k = 6 then b_X12_power_6 rec (l.getD 0 0) (l.getD 1 0) (l.getD 2 0) (l.getD 3 0) (l.getD 4 0) (l.getD 5 0) (l.getD 6 0) h else none) n
noncomputable def f_X12_power (x1 x2 : Int) (h : Hp) : Option (Int × Hp) := g_X12_power FU 0 [x1, x2] h
set_option maxHeartbeats 4000000 in
set_option maxRecDepth 100000 in
theorem t_X12_power_0 (E : xE) (d : Nat) (rec : Rk) (r : Int × Hp) (hr_49 : ∀ (x2 x3 x4 x5 x6 : Int) (h : Hp), Lay h → rec 1 [x2, x3, x4, x5, x6] h = some r → X E mX12_power (d + 3) (0, 0) (0, 0) 49 [some (xr 12 0), none, some (xi x2), some (xi x3), some (xi x4), some (xi x5), some (xi x6), none, none, none, none] [] h (PoI r)) (x1 x2 : Int) (h : Hp) (hL : Lay h) (hF : b_X12_power_0 rec x1 x2 h = some r) : X E mX12_power (d + 3) (0, 0) (0, 0) 0 [some (xr 12 0), some (xi x1), some (xi x2), none, none, none, none, none, none, none, none] [] h (PoI r) := by
  unfold b_X12_power_0 at hF
  refine x_aload_n (i := 0) (b := 1) dX12_power_0 rfl rfl rfl ?_
  refine x_iconst (n := 0) (b := 2) dX12_power_1 (by decide) rfl ?_
  refine x_putI (b := 5) fk_X12_194 dX12_power_2 rfl rfl 0 rfl ?_
  obtain ⟨h1, e_h1, hF⟩ := lt_e hF
  refine x_hp (h2 := h1) e_h1 ?_
  replace hL : Lay h1 := by rw [← e_h1]; exact hL
  refine x_aload_n (i := 0) (b := 6) dX12_power_5 rfl rfl rfl ?_
  refine x_iload_n (i := 1) (b := 7) dX12_power_6 rfl rfl rfl ?_
  obtain ⟨v2, h3, hq, hF⟩ := bd_e hF
  refine x_callV (as := [xi x1]) (rest := []) (b := 10) (c_X12_slot (d + 1) x1 h1 _ hL hq) dX12_power_7 cw_X12_452 ⟨_, _, rfl, Nat.le_of_ble_eq_true rfl⟩ rfl rfl (Nat.le_of_ble_eq_true rfl) ⟨Nat.le_refl _, Nat.le_refl _⟩ rfl (fun rv hh hp _ => ?_)
  obtain ⟨rfl, rfl, hL⟩ := hp
  refine x_istore_n (i := 3) (b := 11) (ls2 := [some (xr 12 0), some (xi x1), some (xi x2), some (xi v2), none, none, none, none, none, none, none]) dX12_power_10 rfl (Nat.le_of_ble_eq_true rfl) rfl rfl ?_
  refine x_aload_n (i := 0) (b := 12) dX12_power_11 rfl rfl rfl ?_
  obtain ⟨v4, h5, hq, hF⟩ := bd_e hF
  refine x_callV (as := []) (rest := []) (b := 15) (c_X12_plain (d + 1) h3 _ hL hq) dX12_power_12 cw_X12_455 ⟨_, _, rfl, Nat.le_of_ble_eq_true rfl⟩ rfl rfl (Nat.le_of_ble_eq_true rfl) ⟨Nat.le_refl _, Nat.le_refl _⟩ rfl (fun rv hh hp _ => ?_)
  obtain ⟨rfl, rfl, hL⟩ := hp
  refine x_iload_n (i := 3) (b := 16) dX12_power_15 rfl rfl rfl ?_
  refine x_iconst (n := (-1)) (b := 17) dX12_power_16 (by decide) rfl ?_
  refine x_icmp_eq (tgt := 38) (b := 20) dX12_power_17 (by decide) rfl (fun hc => ?_) (fun hc => ?_)
  · replace hF := br_T hc hF
    refine x_iconst (n := (-1)) (b := 39) dX12_power_38 (by decide) rfl ?_
    refine x_ireturn dX12_power_39 rfl ⟨Nat.le_refl _, Nat.le_refl _⟩ ?_
    cases hF
    exact ⟨rfl, rfl, hL⟩
  · replace hF := br_F hc hF
    refine x_iload_n (i := 2) (b := 21) dX12_power_20 rfl rfl rfl ?_
    refine x_if_lt (tgt := 38) (b := 24) dX12_power_21 (by decide) rfl (fun hc => ?_) (fun hc => ?_)
    · replace hF := br_T hc hF
      refine x_iconst (n := (-1)) (b := 39) dX12_power_38 (by decide) rfl ?_
      refine x_ireturn dX12_power_39 rfl ⟨Nat.le_refl _, Nat.le_refl _⟩ ?_
      cases hF
      exact ⟨rfl, rfl, hL⟩
    · replace hF := br_F hc hF
      refine x_iload_n (i := 2) (b := 25) dX12_power_24 rfl rfl rfl ?_
      refine x_iconst (n := 1) (b := 26) dX12_power_25 (by decide) rfl ?_
      refine x_icmp_gt (tgt := 38) (b := 29) dX12_power_26 (by decide) rfl (fun hc => ?_) (fun hc => ?_)
      · replace hF := br_T hc hF
        refine x_iconst (n := (-1)) (b := 39) dX12_power_38 (by decide) rfl ?_
        refine x_ireturn dX12_power_39 rfl ⟨Nat.le_refl _, Nat.le_refl _⟩ ?_
        cases hF
        exact ⟨rfl, rfl, hL⟩
      · replace hF := br_F hc hF
        refine x_aload_n (i := 0) (b := 30) dX12_power_29 rfl rfl rfl ?_
        refine x_iconst (n := 0) (b := 31) dX12_power_30 (by decide) rfl ?_
        refine x_iload_n (i := 3) (b := 32) dX12_power_31 rfl rfl rfl ?_
        obtain ⟨v6, h7, hq, hF⟩ := bd_e hF
        refine x_callV (as := [xi 0, xi v2]) (rest := []) (b := 35) (c_X12_isAboard d 0 v2 h5 _ hL hq) dX12_power_32 cw_X12_422 ⟨_, _, rfl, Nat.le_of_ble_eq_true rfl⟩ rfl rfl (Nat.le_of_ble_eq_true rfl) ⟨Nat.le_refl _, Nat.le_refl _⟩ rfl (fun rv hh hp _ => ?_)
        obtain ⟨rfl, rfl, hL⟩ := hp
        refine x_if_ne (tgt := 40) (b := 38) dX12_power_35 (by decide) rfl (fun hc => ?_) (fun hc => ?_)
        · replace hF := br_F hc hF
          refine x_iconst (n := 0) (b := 41) dX12_power_40 (by decide) rfl ?_
          refine x_istore (i := 4) (b := 43) (ls2 := [some (xr 12 0), some (xi x1), some (xi x2), some (xi v2), some (xi 0), none, none, none, none, none, none]) dX12_power_41 (Nat.le_of_ble_eq_true rfl) rfl rfl ?_
          refine x_iconst (n := 0) (b := 44) dX12_power_43 (by decide) rfl ?_
          refine x_istore (i := 5) (b := 46) (ls2 := [some (xr 12 0), some (xi x1), some (xi x2), some (xi v2), some (xi 0), some (xi 0), none, none, none, none, none]) dX12_power_44 (Nat.le_of_ble_eq_true rfl) rfl rfl ?_
          refine x_iconst (n := 0) (b := 47) dX12_power_46 (by decide) rfl ?_
          refine x_istore (i := 6) (b := 49) (ls2 := [some (xr 12 0), some (xi x1), some (xi x2), some (xi v2), some (xi 0), some (xi 0), some (xi 0), none, none, none, none]) dX12_power_47 (Nat.le_of_ble_eq_true rfl) rfl rfl ?_
          exact x_dp (ls2 := [some (xr 12 0), none, some (xi x2), some (xi v2), some (xi 0), some (xi 0), some (xi 0), none, none, none, none]) ⟨rfl, rfl, rfl, rfl, rfl, rfl, trivial⟩ (hr_49 x2 v2 0 0 0 h7 hL hF)
        · replace hF := br_T hc hF
          refine x_iconst (n := (-1)) (b := 39) dX12_power_38 (by decide) rfl ?_
          refine x_ireturn dX12_power_39 rfl ⟨Nat.le_refl _, Nat.le_refl _⟩ ?_
          cases hF
          exact ⟨rfl, rfl, hL⟩
set_option maxHeartbeats 4000000 in
set_option maxRecDepth 100000 in
theorem t_X12_power_1 (E : xE) (d : Nat) (rec : Rk) (r : Int × Hp) (hr_90 : ∀ (x2 x3 x4 x5 x6 : Int) (h : Hp), Lay h → rec 2 [x2, x3, x4, x5, x6] h = some r → X E mX12_power (d + 3) (0, 0) (0, 0) 90 [some (xr 12 0), none, some (xi x2), some (xi x3), some (xi x4), some (xi x5), some (xi x6), none, none, none, none] [] h (PoI r)) (hr_109 : ∀ (x2 x3 x4 x5 x6 x7 x8 : Int) (h : Hp), Lay h → rec 3 [x2, x3, x4, x5, x6, x7, x8] h = some r → X E mX12_power (d + 3) (0, 0) (0, 0) 109 [some (xr 12 0), none, some (xi x2), some (xi x3), some (xi x4), some (xi x5), some (xi x6), some (xi x7), some (xi x8), none, none] [] h (PoI r)) (x2 x3 x4 x5 x6 : Int) (h : Hp) (hL : Lay h) (hF : b_X12_power_1 rec x2 x3 x4 x5 x6 h = some r) : X E mX12_power (d + 3) (0, 0) (0, 0) 49 [some (xr 12 0), none, some (xi x2), some (xi x3), some (xi x4), some (xi x5), some (xi x6), none, none, none, none] [] h (PoI r) := by
  unfold b_X12_power_1 at hF
  refine x_iload (i := 6) (b := 51) dX12_power_49 rfl rfl ?_
  refine x_bipush (n := 9) (b := 53) dX12_power_51 (by decide) rfl ?_
  refine x_icmp_ge (tgt := 96) (b := 56) dX12_power_53 (by decide) rfl (fun hc => ?_) (fun hc => ?_)
  · replace hF := br_T hc hF
    refine x_iload (i := 4) (b := 98) dX12_power_96 rfl rfl ?_
    obtain ⟨v1, h2, hq, hF⟩ := bd_e hF
    refine x_callS (as := [xi x4]) (rest := []) (b := 101) (c_X12_bitsOf (d + 1) x4 h _ hL hq) dX12_power_98 cw_X12_486 rfl rfl (Nat.le_of_ble_eq_true rfl) ⟨Nat.le_refl _, Nat.le_refl _⟩ rfl (fun rv hh hp _ => ?_)
    obtain ⟨rfl, rfl, hL⟩ := hp
    refine x_istore (i := 6) (b := 103) (ls2 := [some (xr 12 0), none, some (xi x2), some (xi x3), some (xi x4), some (xi x5), some (xi v1), none, none, none, none]) dX12_power_101 (Nat.le_of_ble_eq_true rfl) rfl rfl ?_
    refine x_iconst (n := 0) (b := 104) dX12_power_103 (by decide) rfl ?_
    refine x_istore (i := 7) (b := 106) (ls2 := [some (xr 12 0), none, some (xi x2), some (xi x3), some (xi x4), some (xi x5), some (xi v1), some (xi 0), none, none, none]) dX12_power_104 (Nat.le_of_ble_eq_true rfl) rfl rfl ?_
    refine x_iconst (n := 0) (b := 107) dX12_power_106 (by decide) rfl ?_
    refine x_istore (i := 8) (b := 109) (ls2 := [some (xr 12 0), none, some (xi x2), some (xi x3), some (xi x4), some (xi x5), some (xi v1), some (xi 0), some (xi 0), none, none]) dX12_power_107 (Nat.le_of_ble_eq_true rfl) rfl rfl ?_
    exact x_dp (ls2 := [some (xr 12 0), none, some (xi x2), some (xi x3), some (xi x4), some (xi x5), some (xi v1), some (xi 0), some (xi 0), none, none]) ⟨rfl, rfl, rfl, rfl, rfl, rfl, rfl, rfl, trivial⟩ (hr_109 x2 x3 x4 x5 v1 0 0 h2 hL hF)
  · replace hF := br_F hc hF
    refine x_aload_n (i := 0) (b := 57) dX12_power_56 rfl rfl rfl ?_
    refine x_iconst (n := 0) (b := 58) dX12_power_57 (by decide) rfl ?_
    refine x_iload (i := 6) (b := 60) dX12_power_58 rfl rfl ?_
    obtain ⟨v3, h4, hq, hF⟩ := bd_e hF
    refine x_callV (as := [xi 0, xi x6]) (rest := []) (b := 63) (c_X12_isAboard d 0 x6 h _ hL hq) dX12_power_60 cw_X12_422 ⟨_, _, rfl, Nat.le_of_ble_eq_true rfl⟩ rfl rfl (Nat.le_of_ble_eq_true rfl) ⟨Nat.le_refl _, Nat.le_refl _⟩ rfl (fun rv hh hp _ => ?_)
    obtain ⟨rfl, rfl, hL⟩ := hp
    refine x_if_ne (tgt := 69) (b := 66) dX12_power_63 (by decide) rfl (fun hc => ?_) (fun hc => ?_)
    · replace hF := br_F hc hF
      refine x_iload (i := 4) (b := 71) dX12_power_69 rfl rfl ?_
      refine x_iconst (n := 1) (b := 72) dX12_power_71 (by decide) rfl ?_
      refine x_iload (i := 6) (b := 74) dX12_power_72 rfl rfl ?_
      refine x_ishl (b := 75) dX12_power_74 rfl ?_
      refine x_ior (b := 76) dX12_power_75 rfl ?_
      obtain ⟨z5, e_z5, hF⟩ := lt_e hF
      refine x_eq (y := z5) e_z5 ?_
      refine x_istore (i := 4) (b := 78) (ls2 := [some (xr 12 0), none, some (xi x2), some (xi x3), some (xi z5), some (xi x5), some (xi x6), none, none, none, none]) dX12_power_76 (Nat.le_of_ble_eq_true rfl) rfl rfl ?_
      refine x_iload (i := 5) (b := 80) dX12_power_78 rfl rfl ?_
      refine x_aload_n (i := 0) (b := 81) dX12_power_80 rfl rfl rfl ?_
      refine x_iconst (n := 0) (b := 82) dX12_power_81 (by decide) rfl ?_
      refine x_iload (i := 6) (b := 84) dX12_power_82 rfl rfl ?_
      obtain ⟨v6, h7, hq, hF⟩ := bd_e hF
      refine x_callV (as := [xi 0, xi x6]) (rest := [xi x5]) (b := 87) (c_X12_platesOf (d + 1) 0 x6 h4 _ hL hq) dX12_power_84 cw_X12_426 ⟨_, _, rfl, Nat.le_of_ble_eq_true rfl⟩ rfl rfl (Nat.le_of_ble_eq_true rfl) ⟨Nat.le_refl _, Nat.le_refl _⟩ rfl (fun rv hh hp _ => ?_)
      obtain ⟨rfl, rfl, hL⟩ := hp
      obtain ⟨hs, hF⟩ := ck_e hF
      refine x_iadd (b := 88) dX12_power_87 hs rfl ?_
      obtain ⟨z8, e_z8, hF⟩ := lt_e hF
      refine x_eq (y := z8) e_z8 ?_
      refine x_istore (i := 5) (b := 90) (ls2 := [some (xr 12 0), none, some (xi x2), some (xi x3), some (xi z5), some (xi z8), some (xi x6), none, none, none, none]) dX12_power_88 (Nat.le_of_ble_eq_true rfl) rfl rfl ?_
      exact x_dp (ls2 := [some (xr 12 0), none, some (xi x2), some (xi x3), some (xi z5), some (xi z8), some (xi x6), none, none, none, none]) ⟨rfl, rfl, rfl, rfl, rfl, rfl, trivial⟩ (hr_90 x2 x3 z5 z8 x6 h7 hL hF)
    · replace hF := br_T hc hF
      refine x_goto (tgt := 90) dX12_power_66 (by decide) ?_
      exact x_dp (ls2 := [some (xr 12 0), none, some (xi x2), some (xi x3), some (xi x4), some (xi x5), some (xi x6), none, none, none, none]) ⟨rfl, rfl, rfl, rfl, rfl, rfl, trivial⟩ (hr_90 x2 x3 x4 x5 x6 h4 hL hF)
set_option maxHeartbeats 4000000 in
set_option maxRecDepth 100000 in
theorem t_X12_power_2 (E : xE) (d : Nat) (rec : Rk) (r : Int × Hp) (hr_49 : ∀ (x2 x3 x4 x5 x6 : Int) (h : Hp), Lay h → rec 1 [x2, x3, x4, x5, x6] h = some r → X E mX12_power (d + 3) (0, 0) (0, 0) 49 [some (xr 12 0), none, some (xi x2), some (xi x3), some (xi x4), some (xi x5), some (xi x6), none, none, none, none] [] h (PoI r)) (x2 x3 x4 x5 x6 : Int) (h : Hp) (hL : Lay h) (hF : b_X12_power_2 rec x2 x3 x4 x5 x6 h = some r) : X E mX12_power (d + 3) (0, 0) (0, 0) 90 [some (xr 12 0), none, some (xi x2), some (xi x3), some (xi x4), some (xi x5), some (xi x6), none, none, none, none] [] h (PoI r) := by
  unfold b_X12_power_2 at hF
  obtain ⟨hs, hF⟩ := ck_e hF
  refine x_iinc (i := 6) (b := 93) (ls2 := [some (xr 12 0), none, some (xi x2), some (xi x3), some (xi x4), some (xi x5), some (xi (x6 + 1)), none, none, none, none]) dX12_power_90 rfl (Nat.le_of_ble_eq_true rfl) hs rfl rfl ?_
  refine x_goto (tgt := 49) dX12_power_93 (by decide) ?_
  exact x_dp (ls2 := [some (xr 12 0), none, some (xi x2), some (xi x3), some (xi x4), some (xi x5), some (xi (x6 + 1)), none, none, none, none]) ⟨rfl, rfl, rfl, rfl, rfl, rfl, trivial⟩ (hr_49 x2 x3 x4 x5 (x6 + 1) h hL hF)
set_option maxHeartbeats 4000000 in
set_option maxRecDepth 100000 in
theorem t_X12_power_3 (E : xE) (d : Nat) (rec : Rk) (r : Int × Hp) (hr_146 : ∀ (x2 x3 x4 x5 x6 x7 x8 x9 x10 : Int) (h : Hp), Lay h → rec 4 [x2, x3, x4, x5, x6, x7, x8, x9, x10] h = some r → X E mX12_power (d + 3) (0, 0) (0, 0) 146 [some (xr 12 0), none, some (xi x2), some (xi x3), some (xi x4), some (xi x5), some (xi x6), some (xi x7), some (xi x8), some (xi x9), some (xi x10)] [] h (PoI r)) (hr_238 : ∀ (x2 x3 x4 x5 x6 x7 x8 : Int) (h : Hp), Lay h → rec 6 [x2, x3, x4, x5, x6, x7, x8] h = some r → X E mX12_power (d + 3) (0, 0) (0, 0) 238 [some (xr 12 0), none, some (xi x2), some (xi x3), some (xi x4), some (xi x5), some (xi x6), some (xi x7), some (xi x8), none, none] [] h (PoI r)) (x2 x3 x4 x5 x6 x7 x8 : Int) (h : Hp) (hL : Lay h) (hF : b_X12_power_3 rec x2 x3 x4 x5 x6 x7 x8 h = some r) : X E mX12_power (d + 3) (0, 0) (0, 0) 109 [some (xr 12 0), none, some (xi x2), some (xi x3), some (xi x4), some (xi x5), some (xi x6), some (xi x7), some (xi x8), none, none] [] h (PoI r) := by
  unfold b_X12_power_3 at hF
  refine x_iload (i := 8) (b := 111) dX12_power_109 rfl rfl ?_
  refine x_sipush (n := 512) (b := 114) dX12_power_111 (by decide) rfl ?_
  refine x_icmp_ge (tgt := 244) (b := 117) dX12_power_114 (by decide) rfl (fun hc => ?_) (fun hc => ?_)
  · replace hF := br_T hc hF
    refine x_iload (i := 7) (b := 246) dX12_power_244 rfl rfl ?_
    refine x_iload (i := 6) (b := 248) dX12_power_246 rfl rfl ?_
    obtain ⟨v1, h2, hq, hF⟩ := bd_e hF
    refine x_callS (as := [xi x6]) (rest := [xi x7]) (b := 251) (c_X12_factorial (d + 1) x6 h _ hL hq) dX12_power_248 cw_X12_489 rfl rfl (Nat.le_of_ble_eq_true rfl) ⟨Nat.le_refl _, Nat.le_refl _⟩ rfl (fun rv hh hp _ => ?_)
    obtain ⟨rfl, rfl, hL⟩ := hp
    obtain ⟨v3, h4, hq, hF⟩ := bd_e hF
    refine x_callS (as := [xi x7, xi v1]) (rest := []) (b := 254) (c_X12_common (d + 1) x7 v1 h2 _ hL hq) dX12_power_251 cw_X12_492 rfl rfl (Nat.le_of_ble_eq_true rfl) ⟨Nat.le_refl _, Nat.le_refl _⟩ rfl (fun rv hh hp _ => ?_)
    obtain ⟨rfl, rfl, hL⟩ := hp
    refine x_istore (i := 8) (b := 256) (ls2 := [some (xr 12 0), none, some (xi x2), some (xi x3), some (xi x4), some (xi x5), some (xi x6), some (xi x7), some (xi v3), none, none]) dX12_power_254 (Nat.le_of_ble_eq_true rfl) rfl rfl ?_
    refine x_iload_n (i := 2) (b := 257) dX12_power_256 rfl rfl rfl ?_
    refine x_if_ne (tgt := 268) (b := 260) dX12_power_257 (by decide) rfl (fun hc => ?_) (fun hc => ?_)
    · replace hF := br_F hc hF
      refine x_iload (i := 6) (b := 270) dX12_power_268 rfl rfl ?_
      obtain ⟨v5, h6, hq, hF⟩ := bd_e hF
      refine x_callS (as := [xi x6]) (rest := []) (b := 273) (c_X12_factorial (d + 1) x6 h4 _ hL hq) dX12_power_270 cw_X12_489 rfl rfl (Nat.le_of_ble_eq_true rfl) ⟨Nat.le_refl _, Nat.le_refl _⟩ rfl (fun rv hh hp _ => ?_)
      obtain ⟨rfl, rfl, hL⟩ := hp
      refine x_iload (i := 8) (b := 275) dX12_power_273 rfl rfl ?_
      obtain ⟨hs, hF⟩ := ck_e hF
      refine x_idiv (b := 276) dX12_power_275 hs.1 hs.2 rfl ?_
      refine x_ireturn dX12_power_276 rfl ⟨Nat.le_refl _, Nat.le_refl _⟩ ?_
      cases hF
      exact ⟨rfl, rfl, hL⟩
    · replace hF := br_T hc hF
      refine x_iload (i := 7) (b := 262) dX12_power_260 rfl rfl ?_
      refine x_iload (i := 8) (b := 264) dX12_power_262 rfl rfl ?_
      obtain ⟨hs, hF⟩ := ck_e hF
      refine x_idiv (b := 265) dX12_power_264 hs.1 hs.2 rfl ?_
      refine x_goto (tgt := 276) dX12_power_265 (by decide) ?_
      refine x_ireturn dX12_power_276 rfl ⟨Nat.le_refl _, Nat.le_refl _⟩ ?_
      cases hF
      exact ⟨rfl, rfl, hL⟩
  · replace hF := br_F hc hF
    refine x_iload (i := 8) (b := 119) dX12_power_117 rfl rfl ?_
    refine x_iload (i := 4) (b := 121) dX12_power_119 rfl rfl ?_
    refine x_iconst (n := (-1)) (b := 122) dX12_power_121 (by decide) rfl ?_
    refine x_ixor (b := 123) dX12_power_122 rfl ?_
    refine x_iand (b := 124) dX12_power_123 rfl ?_
    refine x_if_ne (tgt := 238) (b := 127) dX12_power_124 (by decide) rfl (fun hc => ?_) (fun hc => ?_)
    · replace hF := br_F hc hF
      exact x_dp (ls2 := [some (xr 12 0), none, some (xi x2), some (xi x3), some (xi x4), some (xi x5), some (xi x6), some (xi x7), some (xi x8), none, none]) ⟨rfl, rfl, rfl, rfl, rfl, rfl, rfl, rfl, trivial⟩ (hr_238 x2 x3 x4 x5 x6 x7 x8 h hL hF)
    · replace hF := br_T hc hF
      refine x_iload (i := 8) (b := 129) dX12_power_127 rfl rfl ?_
      refine x_iload_n (i := 3) (b := 130) dX12_power_129 rfl rfl rfl ?_
      refine x_ishr (b := 131) dX12_power_130 rfl ?_
      refine x_iconst (n := 1) (b := 132) dX12_power_131 (by decide) rfl ?_
      refine x_iand (b := 133) dX12_power_132 rfl ?_
      refine x_iconst (n := 1) (b := 134) dX12_power_133 (by decide) rfl ?_
      refine x_icmp_ne (tgt := 140) (b := 137) dX12_power_134 (by decide) rfl (fun hc => ?_) (fun hc => ?_)
      · replace hF := br_F hc hF
        refine x_iconst (n := 0) (b := 141) dX12_power_140 (by decide) rfl ?_
        refine x_istore (i := 9) (b := 143) (ls2 := [some (xr 12 0), none, some (xi x2), some (xi x3), some (xi x4), some (xi x5), some (xi x6), some (xi x7), some (xi x8), some (xi 0), none]) dX12_power_141 (Nat.le_of_ble_eq_true rfl) rfl rfl ?_
        refine x_iconst (n := 0) (b := 144) dX12_power_143 (by decide) rfl ?_
        refine x_istore (i := 10) (b := 146) (ls2 := [some (xr 12 0), none, some (xi x2), some (xi x3), some (xi x4), some (xi x5), some (xi x6), some (xi x7), some (xi x8), some (xi 0), some (xi 0)]) dX12_power_144 (Nat.le_of_ble_eq_true rfl) rfl rfl ?_
        exact x_dp (ls2 := [some (xr 12 0), none, some (xi x2), some (xi x3), some (xi x4), some (xi x5), some (xi x6), some (xi x7), some (xi x8), some (xi 0), some (xi 0)]) ⟨rfl, rfl, rfl, rfl, rfl, rfl, rfl, rfl, rfl, rfl, trivial⟩ (hr_146 x2 x3 x4 x5 x6 x7 x8 0 0 h hL hF)
      · replace hF := br_T hc hF
        refine x_goto (tgt := 238) dX12_power_137 (by decide) ?_
        exact x_dp (ls2 := [some (xr 12 0), none, some (xi x2), some (xi x3), some (xi x4), some (xi x5), some (xi x6), some (xi x7), some (xi x8), none, none]) ⟨rfl, rfl, rfl, rfl, rfl, rfl, rfl, rfl, trivial⟩ (hr_238 x2 x3 x4 x5 x6 x7 x8 h hL hF)
set_option maxHeartbeats 4000000 in
set_option maxRecDepth 100000 in
theorem t_X12_power_4 (E : xE) (d : Nat) (rec : Rk) (r : Int × Hp) (hr_177 : ∀ (x2 x3 x4 x5 x6 x7 x8 x10 y0 y1 : Int) (h : Hp), Lay h → rec 5 [x2, x3, x4, x5, x6, x7, x8, x10, y0, y1] h = some r → X E mX12_power (d + 3) (0, 0) (0, 0) 177 [some (xr 12 0), none, some (xi x2), some (xi x3), some (xi x4), some (xi x5), some (xi x6), some (xi x7), some (xi x8), none, some (xi x10)] [xi y0, xi y1] h (PoI r)) (hr_238 : ∀ (x2 x3 x4 x5 x6 x7 x8 : Int) (h : Hp), Lay h → rec 6 [x2, x3, x4, x5, x6, x7, x8] h = some r → X E mX12_power (d + 3) (0, 0) (0, 0) 238 [some (xr 12 0), none, some (xi x2), some (xi x3), some (xi x4), some (xi x5), some (xi x6), some (xi x7), some (xi x8), none, none] [] h (PoI r)) (x2 x3 x4 x5 x6 x7 x8 x9 x10 : Int) (h : Hp) (hL : Lay h) (hF : b_X12_power_4 rec x2 x3 x4 x5 x6 x7 x8 x9 x10 h = some r) : X E mX12_power (d + 3) (0, 0) (0, 0) 146 [some (xr 12 0), none, some (xi x2), some (xi x3), some (xi x4), some (xi x5), some (xi x6), some (xi x7), some (xi x8), some (xi x9), some (xi x10)] [] h (PoI r) := by
  unfold b_X12_power_4 at hF
  refine x_iload (i := 10) (b := 148) dX12_power_146 rfl rfl ?_
  refine x_bipush (n := 9) (b := 150) dX12_power_148 (by decide) rfl ?_
  refine x_icmp_ge (tgt := 186) (b := 153) dX12_power_150 (by decide) rfl (fun hc => ?_) (fun hc => ?_)
  · replace hF := br_T hc hF
    refine x_iconst (n := 2) (b := 187) dX12_power_186 (by decide) rfl ?_
    refine x_iload (i := 9) (b := 189) dX12_power_187 rfl rfl ?_
    obtain ⟨hs, hF⟩ := ck_e hF
    refine x_imul (b := 190) dX12_power_189 hs rfl ?_
    refine x_iload (i := 5) (b := 192) dX12_power_190 rfl rfl ?_
    refine x_icmp_gt (tgt := 238) (b := 195) dX12_power_192 (by decide) rfl (fun hc => ?_) (fun hc => ?_)
    · replace hF := br_T hc hF
      exact x_dp (ls2 := [some (xr 12 0), none, some (xi x2), some (xi x3), some (xi x4), some (xi x5), some (xi x6), some (xi x7), some (xi x8), none, none]) ⟨rfl, rfl, rfl, rfl, rfl, rfl, rfl, rfl, trivial⟩ (hr_238 x2 x3 x4 x5 x6 x7 x8 h hL hF)
    · replace hF := br_F hc hF
      refine x_iconst (n := 2) (b := 196) dX12_power_195 (by decide) rfl ?_
      refine x_iload (i := 9) (b := 198) dX12_power_196 rfl rfl ?_
      refine x_aload_n (i := 0) (b := 199) dX12_power_198 rfl rfl rfl ?_
      refine x_iconst (n := 0) (b := 200) dX12_power_199 (by decide) rfl ?_
      refine x_iload_n (i := 3) (b := 201) dX12_power_200 rfl rfl rfl ?_
      obtain ⟨v1, h2, hq, hF⟩ := bd_e hF
      refine x_callV (as := [xi 0, xi x3]) (rest := [xi x9, xi 2]) (b := 204) (c_X12_platesOf (d + 1) 0 x3 h _ hL hq) dX12_power_201 cw_X12_426 ⟨_, _, rfl, Nat.le_of_ble_eq_true rfl⟩ rfl rfl (Nat.le_of_ble_eq_true rfl) ⟨Nat.le_refl _, Nat.le_refl _⟩ rfl (fun rv hh hp _ => ?_)
      obtain ⟨rfl, rfl, hL⟩ := hp
      obtain ⟨hs, hF⟩ := ck_e hF
      refine x_iadd (b := 205) dX12_power_204 hs rfl ?_
      obtain ⟨hs, hF⟩ := ck_e hF
      refine x_imul (b := 206) dX12_power_205 hs rfl ?_
      refine x_iload (i := 5) (b := 208) dX12_power_206 rfl rfl ?_
      refine x_icmp_le (tgt := 238) (b := 211) dX12_power_208 (by decide) rfl (fun hc => ?_) (fun hc => ?_)
      · replace hF := br_T hc hF
        exact x_dp (ls2 := [some (xr 12 0), none, some (xi x2), some (xi x3), some (xi x4), some (xi x5), some (xi x6), some (xi x7), some (xi x8), none, none]) ⟨rfl, rfl, rfl, rfl, rfl, rfl, rfl, rfl, trivial⟩ (hr_238 x2 x3 x4 x5 x6 x7 x8 h2 hL hF)
      · replace hF := br_F hc hF
        refine x_iload (i := 7) (b := 213) dX12_power_211 rfl rfl ?_
        refine x_iload (i := 8) (b := 215) dX12_power_213 rfl rfl ?_
        obtain ⟨v3, h4, hq, hF⟩ := bd_e hF
        refine x_callS (as := [xi x8]) (rest := [xi x7]) (b := 218) (c_X12_bitsOf (d + 1) x8 h2 _ hL hq) dX12_power_215 cw_X12_486 rfl rfl (Nat.le_of_ble_eq_true rfl) ⟨Nat.le_refl _, Nat.le_refl _⟩ rfl (fun rv hh hp _ => ?_)
        obtain ⟨rfl, rfl, hL⟩ := hp
        obtain ⟨v5, h6, hq, hF⟩ := bd_e hF
        refine x_callS (as := [xi v3]) (rest := [xi x7]) (b := 221) (c_X12_factorial (d + 1) v3 h4 _ hL hq) dX12_power_218 cw_X12_489 rfl rfl (Nat.le_of_ble_eq_true rfl) ⟨Nat.le_refl _, Nat.le_refl _⟩ rfl (fun rv hh hp _ => ?_)
        obtain ⟨rfl, rfl, hL⟩ := hp
        refine x_iload (i := 6) (b := 223) dX12_power_221 rfl rfl ?_
        refine x_iconst (n := 1) (b := 224) dX12_power_223 (by decide) rfl ?_
        obtain ⟨hs, hF⟩ := ck_e hF
        refine x_isub (b := 225) dX12_power_224 hs rfl ?_
        refine x_iload (i := 8) (b := 227) dX12_power_225 rfl rfl ?_
        obtain ⟨v7, h8, hq, hF⟩ := bd_e hF
        refine x_callS (as := [xi x8]) (rest := [xi (x6 - 1), xi v5, xi x7]) (b := 230) (c_X12_bitsOf (d + 1) x8 h6 _ hL hq) dX12_power_227 cw_X12_486 rfl rfl (Nat.le_of_ble_eq_true rfl) ⟨Nat.le_refl _, Nat.le_refl _⟩ rfl (fun rv hh hp _ => ?_)
        obtain ⟨rfl, rfl, hL⟩ := hp
        obtain ⟨hs, hF⟩ := ck_e hF
        refine x_isub (b := 231) dX12_power_230 hs rfl ?_
        obtain ⟨v9, h10, hq, hF⟩ := bd_e hF
        refine x_callS (as := [xi ((x6 - 1) - v7)]) (rest := [xi v5, xi x7]) (b := 234) (c_X12_factorial (d + 1) ((x6 - 1) - v7) h8 _ hL hq) dX12_power_231 cw_X12_489 rfl rfl (Nat.le_of_ble_eq_true rfl) ⟨Nat.le_refl _, Nat.le_refl _⟩ rfl (fun rv hh hp _ => ?_)
        obtain ⟨rfl, rfl, hL⟩ := hp
        obtain ⟨hs, hF⟩ := ck_e hF
        refine x_imul (b := 235) dX12_power_234 hs rfl ?_
        obtain ⟨hs, hF⟩ := ck_e hF
        refine x_iadd (b := 236) dX12_power_235 hs rfl ?_
        obtain ⟨z11, e_z11, hF⟩ := lt_e hF
        refine x_eq (y := z11) e_z11 ?_
        refine x_istore (i := 7) (b := 238) (ls2 := [some (xr 12 0), none, some (xi x2), some (xi x3), some (xi x4), some (xi x5), some (xi x6), some (xi z11), some (xi x8), some (xi x9), some (xi x10)]) dX12_power_236 (Nat.le_of_ble_eq_true rfl) rfl rfl ?_
        exact x_dp (ls2 := [some (xr 12 0), none, some (xi x2), some (xi x3), some (xi x4), some (xi x5), some (xi x6), some (xi z11), some (xi x8), none, none]) ⟨rfl, rfl, rfl, rfl, rfl, rfl, rfl, rfl, trivial⟩ (hr_238 x2 x3 x4 x5 x6 z11 x8 h10 hL hF)
  · replace hF := br_F hc hF
    refine x_iload (i := 9) (b := 155) dX12_power_153 rfl rfl ?_
    refine x_iload (i := 8) (b := 157) dX12_power_155 rfl rfl ?_
    refine x_iload (i := 10) (b := 159) dX12_power_157 rfl rfl ?_
    refine x_ishr (b := 160) dX12_power_159 rfl ?_
    refine x_iconst (n := 1) (b := 161) dX12_power_160 (by decide) rfl ?_
    refine x_iand (b := 162) dX12_power_161 rfl ?_
    refine x_iconst (n := 1) (b := 163) dX12_power_162 (by decide) rfl ?_
    refine x_icmp_ne (tgt := 176) (b := 166) dX12_power_163 (by decide) rfl (fun hc => ?_) (fun hc => ?_)
    · replace hF := br_F hc hF
      refine x_iconst (n := 0) (b := 177) dX12_power_176 (by decide) rfl ?_
      exact x_dp (ls2 := [some (xr 12 0), none, some (xi x2), some (xi x3), some (xi x4), some (xi x5), some (xi x6), some (xi x7), some (xi x8), none, some (xi x10)]) ⟨rfl, rfl, rfl, rfl, rfl, rfl, rfl, rfl, rfl, trivial⟩ (hr_177 x2 x3 x4 x5 x6 x7 x8 x10 0 x9 h hL hF)
    · replace hF := br_T hc hF
      refine x_aload_n (i := 0) (b := 167) dX12_power_166 rfl rfl rfl ?_
      refine x_iconst (n := 0) (b := 168) dX12_power_167 (by decide) rfl ?_
      refine x_iload (i := 10) (b := 170) dX12_power_168 rfl rfl ?_
      obtain ⟨v12, h13, hq, hF⟩ := bd_e hF
      refine x_callV (as := [xi 0, xi x10]) (rest := [xi x9]) (b := 173) (c_X12_platesOf (d + 1) 0 x10 h _ hL hq) dX12_power_170 cw_X12_426 ⟨_, _, rfl, Nat.le_of_ble_eq_true rfl⟩ rfl rfl (Nat.le_of_ble_eq_true rfl) ⟨Nat.le_refl _, Nat.le_refl _⟩ rfl (fun rv hh hp _ => ?_)
      obtain ⟨rfl, rfl, hL⟩ := hp
      refine x_goto (tgt := 177) dX12_power_173 (by decide) ?_
      exact x_dp (ls2 := [some (xr 12 0), none, some (xi x2), some (xi x3), some (xi x4), some (xi x5), some (xi x6), some (xi x7), some (xi x8), none, some (xi x10)]) ⟨rfl, rfl, rfl, rfl, rfl, rfl, rfl, rfl, rfl, trivial⟩ (hr_177 x2 x3 x4 x5 x6 x7 x8 x10 v12 x9 h13 hL hF)
set_option maxHeartbeats 4000000 in
set_option maxRecDepth 100000 in
theorem t_X12_power_5 (E : xE) (d : Nat) (rec : Rk) (r : Int × Hp) (hr_146 : ∀ (x2 x3 x4 x5 x6 x7 x8 x9 x10 : Int) (h : Hp), Lay h → rec 4 [x2, x3, x4, x5, x6, x7, x8, x9, x10] h = some r → X E mX12_power (d + 3) (0, 0) (0, 0) 146 [some (xr 12 0), none, some (xi x2), some (xi x3), some (xi x4), some (xi x5), some (xi x6), some (xi x7), some (xi x8), some (xi x9), some (xi x10)] [] h (PoI r)) (x2 x3 x4 x5 x6 x7 x8 x10 y0 y1 : Int) (h : Hp) (hL : Lay h) (hF : b_X12_power_5 rec x2 x3 x4 x5 x6 x7 x8 x10 y0 y1 h = some r) : X E mX12_power (d + 3) (0, 0) (0, 0) 177 [some (xr 12 0), none, some (xi x2), some (xi x3), some (xi x4), some (xi x5), some (xi x6), some (xi x7), some (xi x8), none, some (xi x10)] [xi y0, xi y1] h (PoI r) := by
  unfold b_X12_power_5 at hF
  obtain ⟨hs, hF⟩ := ck_e hF
  refine x_iadd (b := 178) dX12_power_177 hs rfl ?_
  obtain ⟨z1, e_z1, hF⟩ := lt_e hF
  refine x_eq (y := z1) e_z1 ?_
  refine x_istore (i := 9) (b := 180) (ls2 := [some (xr 12 0), none, some (xi x2), some (xi x3), some (xi x4), some (xi x5), some (xi x6), some (xi x7), some (xi x8), some (xi z1), some (xi x10)]) dX12_power_178 (Nat.le_of_ble_eq_true rfl) rfl rfl ?_
  obtain ⟨hs, hF⟩ := ck_e hF
  refine x_iinc (i := 10) (b := 183) (ls2 := [some (xr 12 0), none, some (xi x2), some (xi x3), some (xi x4), some (xi x5), some (xi x6), some (xi x7), some (xi x8), some (xi z1), some (xi (x10 + 1))]) dX12_power_180 rfl (Nat.le_of_ble_eq_true rfl) hs rfl rfl ?_
  refine x_goto (tgt := 146) dX12_power_183 (by decide) ?_
  exact x_dp (ls2 := [some (xr 12 0), none, some (xi x2), some (xi x3), some (xi x4), some (xi x5), some (xi x6), some (xi x7), some (xi x8), some (xi z1), some (xi (x10 + 1))]) ⟨rfl, rfl, rfl, rfl, rfl, rfl, rfl, rfl, rfl, rfl, trivial⟩ (hr_146 x2 x3 x4 x5 x6 x7 x8 z1 (x10 + 1) h hL hF)
set_option maxHeartbeats 4000000 in
set_option maxRecDepth 100000 in
theorem t_X12_power_6 (E : xE) (d : Nat) (rec : Rk) (r : Int × Hp) (hr_109 : ∀ (x2 x3 x4 x5 x6 x7 x8 : Int) (h : Hp), Lay h → rec 3 [x2, x3, x4, x5, x6, x7, x8] h = some r → X E mX12_power (d + 3) (0, 0) (0, 0) 109 [some (xr 12 0), none, some (xi x2), some (xi x3), some (xi x4), some (xi x5), some (xi x6), some (xi x7), some (xi x8), none, none] [] h (PoI r)) (x2 x3 x4 x5 x6 x7 x8 : Int) (h : Hp) (hL : Lay h) (hF : b_X12_power_6 rec x2 x3 x4 x5 x6 x7 x8 h = some r) : X E mX12_power (d + 3) (0, 0) (0, 0) 238 [some (xr 12 0), none, some (xi x2), some (xi x3), some (xi x4), some (xi x5), some (xi x6), some (xi x7), some (xi x8), none, none] [] h (PoI r) := by
  unfold b_X12_power_6 at hF
  obtain ⟨hs, hF⟩ := ck_e hF
  refine x_iinc (i := 8) (b := 241) (ls2 := [some (xr 12 0), none, some (xi x2), some (xi x3), some (xi x4), some (xi x5), some (xi x6), some (xi x7), some (xi (x8 + 1)), none, none]) dX12_power_238 rfl (Nat.le_of_ble_eq_true rfl) hs rfl rfl ?_
  refine x_goto (tgt := 109) dX12_power_241 (by decide) ?_
  exact x_dp (ls2 := [some (xr 12 0), none, some (xi x2), some (xi x3), some (xi x4), some (xi x5), some (xi x6), some (xi x7), some (xi (x8 + 1)), none, none]) ⟨rfl, rfl, rfl, rfl, rfl, rfl, rfl, rfl, trivial⟩ (hr_109 x2 x3 x4 x5 x6 x7 (x8 + 1) h hL hF)
set_option maxHeartbeats 4000000 in
set_option maxRecDepth 100000 in
theorem u_X12_power (E : xE) (d : Nat) (r : Int × Hp) : ∀ n : Nat, (∀ (x1 x2 : Int) (h : Hp), Lay h → g_X12_power n 0 [x1, x2] h = some r → X E mX12_power (d + 3) (0, 0) (0, 0) 0 [some (xr 12 0), some (xi x1), some (xi x2), none, none, none, none, none, none, none, none] [] h (PoI r)) ∧ (∀ (x2 x3 x4 x5 x6 : Int) (h : Hp), Lay h → g_X12_power n 1 [x2, x3, x4, x5, x6] h = some r → X E mX12_power (d + 3) (0, 0) (0, 0) 49 [some (xr 12 0), none, some (xi x2), some (xi x3), some (xi x4), some (xi x5), some (xi x6), none, none, none, none] [] h (PoI r)) ∧ (∀ (x2 x3 x4 x5 x6 : Int) (h : Hp), Lay h → g_X12_power n 2 [x2, x3, x4, x5, x6] h = some r → X E mX12_power (d + 3) (0, 0) (0, 0) 90 [some (xr 12 0), none, some (xi x2), some (xi x3), some (xi x4), some (xi x5), some (xi x6), none, none, none, none] [] h (PoI r)) ∧ (∀ (x2 x3 x4 x5 x6 x7 x8 : Int) (h : Hp), Lay h → g_X12_power n 3 [x2, x3, x4, x5, x6, x7, x8] h = some r → X E mX12_power (d + 3) (0, 0) (0, 0) 109 [some (xr 12 0), none, some (xi x2), some (xi x3), some (xi x4), some (xi x5), some (xi x6), some (xi x7), some (xi x8), none, none] [] h (PoI r)) ∧ (∀ (x2 x3 x4 x5 x6 x7 x8 x9 x10 : Int) (h : Hp), Lay h → g_X12_power n 4 [x2, x3, x4, x5, x6, x7, x8, x9, x10] h = some r → X E mX12_power (d + 3) (0, 0) (0, 0) 146 [some (xr 12 0), none, some (xi x2), some (xi x3), some (xi x4), some (xi x5), some (xi x6), some (xi x7), some (xi x8), some (xi x9), some (xi x10)] [] h (PoI r)) ∧ (∀ (x2 x3 x4 x5 x6 x7 x8 x10 y0 y1 : Int) (h : Hp), Lay h → g_X12_power n 5 [x2, x3, x4, x5, x6, x7, x8, x10, y0, y1] h = some r → X E mX12_power (d + 3) (0, 0) (0, 0) 177 [some (xr 12 0), none, some (xi x2), some (xi x3), some (xi x4), some (xi x5), some (xi x6), some (xi x7), some (xi x8), none, some (xi x10)] [xi y0, xi y1] h (PoI r)) ∧ (∀ (x2 x3 x4 x5 x6 x7 x8 : Int) (h : Hp), Lay h → g_X12_power n 6 [x2, x3, x4, x5, x6, x7, x8] h = some r → X E mX12_power (d + 3) (0, 0) (0, 0) 238 [some (xr 12 0), none, some (xi x2), some (xi x3), some (xi x4), some (xi x5), some (xi x6), some (xi x7), some (xi x8), none, none] [] h (PoI r)) := by
  intro n
  induction n with
  | zero => exact ⟨fun _ _ _ _ hF => no_e (r := r) hF, fun _ _ _ _ _ _ _ hF => no_e (r := r) hF, fun _ _ _ _ _ _ _ hF => no_e (r := r) hF, fun _ _ _ _ _ _ _ _ _ hF => no_e (r := r) hF, fun _ _ _ _ _ _ _ _ _ _ _ hF => no_e (r := r) hF, fun _ _ _ _ _ _ _ _ _ _ _ _ hF => no_e (r := r) hF, fun _ _ _ _ _ _ _ _ _ hF => no_e (r := r) hF⟩
  | succ n ih => exact ⟨fun x1 x2 h hL hF => t_X12_power_0 E d (g_X12_power n) r ih.2.1 x1 x2 h hL hF, fun x2 x3 x4 x5 x6 h hL hF => t_X12_power_1 E d (g_X12_power n) r ih.2.2.1 ih.2.2.2.1 x2 x3 x4 x5 x6 h hL hF, fun x2 x3 x4 x5 x6 h hL hF => t_X12_power_2 E d (g_X12_power n) r ih.2.1 x2 x3 x4 x5 x6 h hL hF, fun x2 x3 x4 x5 x6 x7 x8 h hL hF => t_X12_power_3 E d (g_X12_power n) r ih.2.2.2.2.1 ih.2.2.2.2.2.2 x2 x3 x4 x5 x6 x7 x8 h hL hF, fun x2 x3 x4 x5 x6 x7 x8 x9 x10 h hL hF => t_X12_power_4 E d (g_X12_power n) r ih.2.2.2.2.2.1 ih.2.2.2.2.2.2 x2 x3 x4 x5 x6 x7 x8 x9 x10 h hL hF, fun x2 x3 x4 x5 x6 x7 x8 x10 y0 y1 h hL hF => t_X12_power_5 E d (g_X12_power n) r ih.2.2.2.2.1 x2 x3 x4 x5 x6 x7 x8 x10 y0 y1 h hL hF, fun x2 x3 x4 x5 x6 x7 x8 h hL hF => t_X12_power_6 E d (g_X12_power n) r ih.2.2.2.1 x2 x3 x4 x5 x6 x7 x8 h hL hF⟩
theorem c_X12_power (d : Nat) (x1 x2 : Int) (h : Hp) (r : Int × Hp) (hL : Lay h) (hF : f_X12_power x1 x2 h = some r) : Sp mX12_power (d + 3) (0, 0) [xr 12 0, xi x1, xi x2] h (PoI r) :=
  sp_of (by decide) rfl (Nat.le_of_ble_eq_true rfl) (ls := [some (xr 12 0), some (xi x1), some (xi x2), none, none, none, none, none, none, none, none]) rfl (fun E _ => (u_X12_power E d r FU).1 x1 x2 h hL hF)
