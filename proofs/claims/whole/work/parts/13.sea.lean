/-! SEA: cells, land, ways -/
abbrev cellP (W H c : Int) : Prop := 0 ≤ c ∧ c < W * H
abbrev seaB (W H : Int) : Prop := 1 ≤ W ∧ W ≤ 8 ∧ 1 ≤ H ∧ H ≤ 8
/-- the bit c of a row of bits -/
abbrev lbit (N c : Int) : Prop := ¬ bandL (bushrL N c) 1 = 0
def stepF (W H c k : Int) : Int := if cellP W H c then (if k = 0 then (if W ≤ c then c - W else -1) else if k = 1 then (if c % W + 1 < W then c + 1 else -1) else if k = 2 then (if c + W < W * H then c + W else -1) else if k = 3 then (if 0 < c % W then c - 1 else -1) else -1) else -1
theorem sea_mul {W H : Int} (h : seaB W H) : 1 ≤ W * H ∧ W * H ≤ 64 := by
  obtain ⟨h1, h2, h3, h4⟩ := h
  have e1 : W * H ≤ 8 * 8 := Int.mul_le_mul h2 h4 (by omega) (by omega)
  have e2 : 1 * 1 ≤ W * H := Int.mul_le_mul h1 h3 (by omega) (by omega)
  omega
theorem dX9_isCell_0 : decode cX9_isCell 0 = .ok (.iload_n 1, 1) := by decide +kernel
theorem dX9_isCell_1 : decode cX9_isCell 1 = .ok (.ifCond .lt 26, 3) := by decide +kernel
theorem dX9_isCell_4 : decode cX9_isCell 4 = .ok (.iload_n 1, 1) := by decide +kernel
theorem dX9_isCell_5 : decode cX9_isCell 5 = .ok (.aload_n 0, 1) := by decide +kernel
theorem dX9_isCell_6 : decode cX9_isCell 6 = .ok (.getfield 9, 3) := by decide +kernel
theorem dX9_isCell_9 : decode cX9_isCell 9 = .ok (.aload_n 0, 1) := by decide +kernel
theorem dX9_isCell_10 : decode cX9_isCell 10 = .ok (.getfield 15, 3) := by decide +kernel
theorem dX9_isCell_13 : decode cX9_isCell 13 = .ok (.imul, 1) := by decide +kernel
theorem dX9_isCell_14 : decode cX9_isCell 14 = .ok (.if_icmp .ge 13, 3) := by decide +kernel
theorem dX9_isCell_17 : decode cX9_isCell 17 = .ok (.iload_n 1, 1) := by decide +kernel
theorem dX9_isCell_18 : decode cX9_isCell 18 = .ok (.bipush 64, 2) := by decide +kernel
theorem dX9_isCell_20 : decode cX9_isCell 20 = .ok (.if_icmp .ge 7, 3) := by decide +kernel
theorem dX9_isCell_23 : decode cX9_isCell 23 = .ok (.iconst 1, 1) := by decide +kernel
theorem dX9_isCell_24 : decode cX9_isCell 24 = .ok (.goto 4, 3) := by decide +kernel
theorem dX9_isCell_27 : decode cX9_isCell 27 = .ok (.iconst 0, 1) := by decide +kernel
theorem dX9_isCell_28 : decode cX9_isCell 28 = .ok (.ireturn, 1) := by decide +kernel
set_option maxHeartbeats 4000000 in
set_option maxRecDepth 100000 in
theorem s_X9_isCell (d : Nat) (h : Hp) (i c W H : Int) (eW : gI h 9 i 0 = W) (eH : gI h 9 i 1 = H) (hb : seaB W H) : Sp mX9_isCell (d + 1) (0, 0) [xr 9 i, xi c] h (fun rv h2 => rv = some (xi (b2i (cellP W H c))) ∧ h2 = h) := by
  refine sp_of (by decide) rfl (Nat.le_of_ble_eq_true rfl) (ls := [some (xr 9 i), some (xi c)]) rfl (fun E hE => ?_)
  refine x_iload_n (i := 1) (b := 1) dX9_isCell_0 rfl rfl rfl ?_
  refine x_if_lt (tgt := 27) (b := 4) dX9_isCell_1 (by decide) rfl (fun hc_1 => ?_) (fun hc_1 => ?_)
  · refine x_iconst (n := 0) (b := 28) dX9_isCell_27 (by decide) rfl ?_
    refine x_zreturn dX9_isCell_28 rfl ⟨Nat.le_refl _, Nat.le_refl _⟩ (by decide) ?_
    have hm := sea_mul hb
    refine ⟨congrArg (fun z => some (xi z)) ?_, rfl⟩
    simp only [b2i, cellP]
    split <;> omega
  · refine x_iload_n (i := 1) (b := 5) dX9_isCell_4 rfl rfl rfl ?_
    refine x_aload_n (i := 0) (b := 6) dX9_isCell_5 rfl rfl rfl ?_
    refine x_getI (v := W) (b := 9) fk_X9_9 dX9_isCell_6 (by decide) eW rfl ?_
    refine x_aload_n (i := 0) (b := 10) dX9_isCell_9 rfl rfl rfl ?_
    refine x_getI (v := H) (b := 13) fk_X9_15 dX9_isCell_10 (by decide) eH rfl ?_
    refine x_imul (b := 14) dX9_isCell_13 (by have := sea_mul hb; omega) rfl ?_
    refine x_icmp_ge (tgt := 27) (b := 17) dX9_isCell_14 (by decide) rfl (fun hc_14 => ?_) (fun hc_14 => ?_)
    · refine x_iconst (n := 0) (b := 28) dX9_isCell_27 (by decide) rfl ?_
      refine x_zreturn dX9_isCell_28 rfl ⟨Nat.le_refl _, Nat.le_refl _⟩ (by decide) ?_
      have hm := sea_mul hb
      refine ⟨congrArg (fun z => some (xi z)) ?_, rfl⟩
      simp only [b2i, cellP]
      split <;> omega
    · refine x_iload_n (i := 1) (b := 18) dX9_isCell_17 rfl rfl rfl ?_
      refine x_bipush (n := 64) (b := 20) dX9_isCell_18 (by decide) rfl ?_
      refine x_icmp_ge (tgt := 27) (b := 23) dX9_isCell_20 (by decide) rfl (fun hc_20 => ?_) (fun hc_20 => ?_)
      · refine x_iconst (n := 0) (b := 28) dX9_isCell_27 (by decide) rfl ?_
        refine x_zreturn dX9_isCell_28 rfl ⟨Nat.le_refl _, Nat.le_refl _⟩ (by decide) ?_
        have hm := sea_mul hb
        refine ⟨congrArg (fun z => some (xi z)) ?_, rfl⟩
        simp only [b2i, cellP]
        split <;> omega
      · refine x_iconst (n := 1) (b := 24) dX9_isCell_23 (by decide) rfl ?_
        refine x_goto (tgt := 28) dX9_isCell_24 (by decide) ?_
        refine x_zreturn dX9_isCell_28 rfl ⟨Nat.le_refl _, Nat.le_refl _⟩ (by decide) ?_
        have hm := sea_mul hb
        refine ⟨congrArg (fun z => some (xi z)) ?_, rfl⟩
        simp only [b2i, cellP]
        split <;> omega
theorem dX9_isLand_0 : decode cX9_isLand 0 = .ok (.aload_n 0, 1) := by decide +kernel
theorem dX9_isLand_1 : decode cX9_isLand 1 = .ok (.iload_n 1, 1) := by decide +kernel
theorem dX9_isLand_2 : decode cX9_isLand 2 = .ok (.invokevirtual 53, 3) := by decide +kernel
theorem dX9_isLand_5 : decode cX9_isLand 5 = .ok (.ifCond .eq 20, 3) := by decide +kernel
theorem dX9_isLand_8 : decode cX9_isLand 8 = .ok (.aload_n 0, 1) := by decide +kernel
theorem dX9_isLand_9 : decode cX9_isLand 9 = .ok (.getfield 18, 3) := by decide +kernel
theorem dX9_isLand_12 : decode cX9_isLand 12 = .ok (.iload_n 1, 1) := by decide +kernel
theorem dX9_isLand_13 : decode cX9_isLand 13 = .ok (.lushr, 1) := by decide +kernel
theorem dX9_isLand_14 : decode cX9_isLand 14 = .ok (.lconst 1, 1) := by decide +kernel
theorem dX9_isLand_15 : decode cX9_isLand 15 = .ok (.land, 1) := by decide +kernel
theorem dX9_isLand_16 : decode cX9_isLand 16 = .ok (.lconst 0, 1) := by decide +kernel
theorem dX9_isLand_17 : decode cX9_isLand 17 = .ok (.lcmp, 1) := by decide +kernel
theorem dX9_isLand_18 : decode cX9_isLand 18 = .ok (.ifCond .eq 7, 3) := by decide +kernel
theorem dX9_isLand_21 : decode cX9_isLand 21 = .ok (.iconst 1, 1) := by decide +kernel
theorem dX9_isLand_22 : decode cX9_isLand 22 = .ok (.goto 4, 3) := by decide +kernel
theorem dX9_isLand_25 : decode cX9_isLand 25 = .ok (.iconst 0, 1) := by decide +kernel
theorem dX9_isLand_26 : decode cX9_isLand 26 = .ok (.ireturn, 1) := by decide +kernel
set_option maxHeartbeats 4000000 in
set_option maxRecDepth 100000 in
theorem s_X9_isLand (d : Nat) (h : Hp) (i c W H N : Int) (eW : gI h 9 i 0 = W) (eH : gI h 9 i 1 = H) (eN : gI h 9 i 2 = N) (hb : seaB W H) : Sp mX9_isLand (d + 2) (0, 0) [xr 9 i, xi c] h (fun rv h2 => rv = some (xi (b2i (cellP W H c ∧ lbit N c))) ∧ h2 = h) := by
  refine sp_of (by decide) rfl (Nat.le_of_ble_eq_true rfl) (ls := [some (xr 9 i), some (xi c)]) rfl (fun E hE => ?_)
  refine x_aload_n (i := 0) (b := 1) dX9_isLand_0 rfl rfl rfl ?_
  refine x_iload_n (i := 1) (b := 2) dX9_isLand_1 rfl rfl rfl ?_
  refine x_callV (as := [xi c]) (rest := []) (b := 5) (s_X9_isCell _ h i c W H eW eH hb) dX9_isLand_2 cw_X9_53 ⟨_, _, rfl, by decide⟩ rfl rfl (Nat.le_of_ble_eq_true rfl) ⟨Nat.le_refl _, Nat.le_refl _⟩ rfl (fun rv h2 hq _ => ?_)
  obtain ⟨rfl, he⟩ := hq
  replace he := he.symm
  subst he
  refine x_if_eq (tgt := 25) (b := 8) dX9_isLand_5 (by decide) rfl (fun hc_5 => ?_) (fun hc_5 => ?_)
  · have hc_5 := b2i_0.mp hc_5
    refine x_iconst (n := 0) (b := 26) dX9_isLand_25 (by decide) rfl ?_
    refine x_zreturn dX9_isLand_26 rfl ⟨Nat.le_refl _, Nat.le_refl _⟩ (by decide) ?_
    refine ⟨congrArg (fun z => some (xi z)) ?_, rfl⟩
    simp only [b2i]
    split <;> simp_all
  · have hc_5 := b2i_n.mp hc_5
    refine x_aload_n (i := 0) (b := 9) dX9_isLand_8 rfl rfl rfl ?_
    refine x_getJ (v := N) (b := 12) fk_X9_18 dX9_isLand_9 rfl eN rfl ?_
    refine x_iload_n (i := 1) (b := 13) dX9_isLand_12 rfl rfl rfl ?_
    refine x_lushr (b := 14) dX9_isLand_13 rfl ?_
    refine x_lconst (z := 1) (b := 15) dX9_isLand_14 rfl (by decide) rfl ?_
    refine x_land (b := 16) dX9_isLand_15 rfl ?_
    refine x_lconst (z := 0) (b := 17) dX9_isLand_16 rfl (by decide) rfl ?_
    refine x_lcmp (b := 18) dX9_isLand_17 rfl ?_
    refine x_if_eq (tgt := 25) (b := 21) dX9_isLand_18 (by decide) rfl (fun hc_18 => ?_) (fun hc_18 => ?_)
    · have hc_18 := lc_eq0.mp hc_18
      refine x_iconst (n := 0) (b := 26) dX9_isLand_25 (by decide) rfl ?_
      refine x_zreturn dX9_isLand_26 rfl ⟨Nat.le_refl _, Nat.le_refl _⟩ (by decide) ?_
      refine ⟨congrArg (fun z => some (xi z)) ?_, rfl⟩
      simp only [b2i]
      split <;> simp_all
    · have hc_18 := fun z => hc_18 (lc_eq0.mpr z)
      refine x_iconst (n := 1) (b := 22) dX9_isLand_21 (by decide) rfl ?_
      refine x_goto (tgt := 26) dX9_isLand_22 (by decide) ?_
      refine x_zreturn dX9_isLand_26 rfl ⟨Nat.le_refl _, Nat.le_refl _⟩ (by decide) ?_
      refine ⟨congrArg (fun z => some (xi z)) ?_, rfl⟩
      simp only [b2i]
      split <;> simp_all
theorem dX9_isWater_0 : decode cX9_isWater 0 = .ok (.aload_n 0, 1) := by decide +kernel
theorem dX9_isWater_1 : decode cX9_isWater 1 = .ok (.iload_n 1, 1) := by decide +kernel
theorem dX9_isWater_2 : decode cX9_isWater 2 = .ok (.invokevirtual 53, 3) := by decide +kernel
theorem dX9_isWater_5 : decode cX9_isWater 5 = .ok (.ifCond .eq 20, 3) := by decide +kernel
theorem dX9_isWater_8 : decode cX9_isWater 8 = .ok (.aload_n 0, 1) := by decide +kernel
theorem dX9_isWater_9 : decode cX9_isWater 9 = .ok (.getfield 18, 3) := by decide +kernel
theorem dX9_isWater_12 : decode cX9_isWater 12 = .ok (.iload_n 1, 1) := by decide +kernel
theorem dX9_isWater_13 : decode cX9_isWater 13 = .ok (.lushr, 1) := by decide +kernel
theorem dX9_isWater_14 : decode cX9_isWater 14 = .ok (.lconst 1, 1) := by decide +kernel
theorem dX9_isWater_15 : decode cX9_isWater 15 = .ok (.land, 1) := by decide +kernel
theorem dX9_isWater_16 : decode cX9_isWater 16 = .ok (.lconst 0, 1) := by decide +kernel
theorem dX9_isWater_17 : decode cX9_isWater 17 = .ok (.lcmp, 1) := by decide +kernel
theorem dX9_isWater_18 : decode cX9_isWater 18 = .ok (.ifCond .ne 7, 3) := by decide +kernel
theorem dX9_isWater_21 : decode cX9_isWater 21 = .ok (.iconst 1, 1) := by decide +kernel
theorem dX9_isWater_22 : decode cX9_isWater 22 = .ok (.goto 4, 3) := by decide +kernel
theorem dX9_isWater_25 : decode cX9_isWater 25 = .ok (.iconst 0, 1) := by decide +kernel
theorem dX9_isWater_26 : decode cX9_isWater 26 = .ok (.ireturn, 1) := by decide +kernel
set_option maxHeartbeats 4000000 in
set_option maxRecDepth 100000 in
theorem s_X9_isWater (d : Nat) (h : Hp) (i c W H N : Int) (eW : gI h 9 i 0 = W) (eH : gI h 9 i 1 = H) (eN : gI h 9 i 2 = N) (hb : seaB W H) : Sp mX9_isWater (d + 2) (0, 0) [xr 9 i, xi c] h (fun rv h2 => rv = some (xi (b2i (cellP W H c ∧ ¬ lbit N c))) ∧ h2 = h) := by
  refine sp_of (by decide) rfl (Nat.le_of_ble_eq_true rfl) (ls := [some (xr 9 i), some (xi c)]) rfl (fun E hE => ?_)
  refine x_aload_n (i := 0) (b := 1) dX9_isWater_0 rfl rfl rfl ?_
  refine x_iload_n (i := 1) (b := 2) dX9_isWater_1 rfl rfl rfl ?_
  refine x_callV (as := [xi c]) (rest := []) (b := 5) (s_X9_isCell _ h i c W H eW eH hb) dX9_isWater_2 cw_X9_53 ⟨_, _, rfl, by decide⟩ rfl rfl (Nat.le_of_ble_eq_true rfl) ⟨Nat.le_refl _, Nat.le_refl _⟩ rfl (fun rv h2 hq _ => ?_)
  obtain ⟨rfl, he⟩ := hq
  replace he := he.symm
  subst he
  refine x_if_eq (tgt := 25) (b := 8) dX9_isWater_5 (by decide) rfl (fun hc_5 => ?_) (fun hc_5 => ?_)
  · have hc_5 := b2i_0.mp hc_5
    refine x_iconst (n := 0) (b := 26) dX9_isWater_25 (by decide) rfl ?_
    refine x_zreturn dX9_isWater_26 rfl ⟨Nat.le_refl _, Nat.le_refl _⟩ (by decide) ?_
    refine ⟨congrArg (fun z => some (xi z)) ?_, rfl⟩
    simp only [b2i]
    split <;> simp_all
  · have hc_5 := b2i_n.mp hc_5
    refine x_aload_n (i := 0) (b := 9) dX9_isWater_8 rfl rfl rfl ?_
    refine x_getJ (v := N) (b := 12) fk_X9_18 dX9_isWater_9 rfl eN rfl ?_
    refine x_iload_n (i := 1) (b := 13) dX9_isWater_12 rfl rfl rfl ?_
    refine x_lushr (b := 14) dX9_isWater_13 rfl ?_
    refine x_lconst (z := 1) (b := 15) dX9_isWater_14 rfl (by decide) rfl ?_
    refine x_land (b := 16) dX9_isWater_15 rfl ?_
    refine x_lconst (z := 0) (b := 17) dX9_isWater_16 rfl (by decide) rfl ?_
    refine x_lcmp (b := 18) dX9_isWater_17 rfl ?_
    refine x_if_ne (tgt := 25) (b := 21) dX9_isWater_18 (by decide) rfl (fun hc_18 => ?_) (fun hc_18 => ?_)
    · have hc_18 := fun z => hc_18 (lc_eq0.mpr z)
      refine x_iconst (n := 0) (b := 26) dX9_isWater_25 (by decide) rfl ?_
      refine x_zreturn dX9_isWater_26 rfl ⟨Nat.le_refl _, Nat.le_refl _⟩ (by decide) ?_
      refine ⟨congrArg (fun z => some (xi z)) ?_, rfl⟩
      simp only [b2i]
      split <;> simp_all
    · have hc_18 := lc_eq0.mp hc_18
      refine x_iconst (n := 1) (b := 22) dX9_isWater_21 (by decide) rfl ?_
      refine x_goto (tgt := 26) dX9_isWater_22 (by decide) ?_
      refine x_zreturn dX9_isWater_26 rfl ⟨Nat.le_refl _, Nat.le_refl _⟩ (by decide) ?_
      refine ⟨congrArg (fun z => some (xi z)) ?_, rfl⟩
      simp only [b2i]
      split <;> simp_all
theorem dX9_step_0 : decode cX9_step 0 = .ok (.aload_n 0, 1) := by decide +kernel
theorem dX9_step_1 : decode cX9_step 1 = .ok (.iload_n 1, 1) := by decide +kernel
theorem dX9_step_2 : decode cX9_step 2 = .ok (.invokevirtual 53, 3) := by decide +kernel
theorem dX9_step_5 : decode cX9_step 5 = .ok (.ifCond .eq 11, 3) := by decide +kernel
theorem dX9_step_8 : decode cX9_step 8 = .ok (.aload_n 0, 1) := by decide +kernel
theorem dX9_step_9 : decode cX9_step 9 = .ok (.getfield 9, 3) := by decide +kernel
theorem dX9_step_12 : decode cX9_step 12 = .ok (.iconst 1, 1) := by decide +kernel
theorem dX9_step_13 : decode cX9_step 13 = .ok (.if_icmp .ge 5, 3) := by decide +kernel
theorem dX9_step_16 : decode cX9_step 16 = .ok (.iconst (-1), 1) := by decide +kernel
theorem dX9_step_17 : decode cX9_step 17 = .ok (.ireturn, 1) := by decide +kernel
theorem dX9_step_18 : decode cX9_step 18 = .ok (.iload_n 1, 1) := by decide +kernel
theorem dX9_step_19 : decode cX9_step 19 = .ok (.aload_n 0, 1) := by decide +kernel
theorem dX9_step_20 : decode cX9_step 20 = .ok (.getfield 9, 3) := by decide +kernel
theorem dX9_step_23 : decode cX9_step 23 = .ok (.irem, 1) := by decide +kernel
theorem dX9_step_24 : decode cX9_step 24 = .ok (.istore_n 3, 1) := by decide +kernel
theorem dX9_step_25 : decode cX9_step 25 = .ok (.iload_n 2, 1) := by decide +kernel
theorem dX9_step_26 : decode cX9_step 26 = .ok (.tableswitch 103 0 3 #[30, 49, 67, 91], 30) := by decide +kernel
theorem dX9_step_56 : decode cX9_step 56 = .ok (.iload_n 1, 1) := by decide +kernel
theorem dX9_step_57 : decode cX9_step 57 = .ok (.aload_n 0, 1) := by decide +kernel
theorem dX9_step_58 : decode cX9_step 58 = .ok (.getfield 9, 3) := by decide +kernel
theorem dX9_step_61 : decode cX9_step 61 = .ok (.if_icmp .lt 12, 3) := by decide +kernel
theorem dX9_step_64 : decode cX9_step 64 = .ok (.iload_n 1, 1) := by decide +kernel
theorem dX9_step_65 : decode cX9_step 65 = .ok (.aload_n 0, 1) := by decide +kernel
theorem dX9_step_66 : decode cX9_step 66 = .ok (.getfield 9, 3) := by decide +kernel
theorem dX9_step_69 : decode cX9_step 69 = .ok (.isub, 1) := by decide +kernel
theorem dX9_step_70 : decode cX9_step 70 = .ok (.goto 4, 3) := by decide +kernel
theorem dX9_step_73 : decode cX9_step 73 = .ok (.iconst (-1), 1) := by decide +kernel
theorem dX9_step_74 : decode cX9_step 74 = .ok (.ireturn, 1) := by decide +kernel
theorem dX9_step_75 : decode cX9_step 75 = .ok (.iload_n 3, 1) := by decide +kernel
theorem dX9_step_76 : decode cX9_step 76 = .ok (.iconst 1, 1) := by decide +kernel
theorem dX9_step_77 : decode cX9_step 77 = .ok (.iadd, 1) := by decide +kernel
theorem dX9_step_78 : decode cX9_step 78 = .ok (.aload_n 0, 1) := by decide +kernel
theorem dX9_step_79 : decode cX9_step 79 = .ok (.getfield 9, 3) := by decide +kernel
theorem dX9_step_82 : decode cX9_step 82 = .ok (.if_icmp .ge 9, 3) := by decide +kernel
theorem dX9_step_85 : decode cX9_step 85 = .ok (.iload_n 1, 1) := by decide +kernel
theorem dX9_step_86 : decode cX9_step 86 = .ok (.iconst 1, 1) := by decide +kernel
theorem dX9_step_87 : decode cX9_step 87 = .ok (.iadd, 1) := by decide +kernel
theorem dX9_step_88 : decode cX9_step 88 = .ok (.goto 4, 3) := by decide +kernel
theorem dX9_step_91 : decode cX9_step 91 = .ok (.iconst (-1), 1) := by decide +kernel
theorem dX9_step_92 : decode cX9_step 92 = .ok (.ireturn, 1) := by decide +kernel
theorem dX9_step_93 : decode cX9_step 93 = .ok (.aload_n 0, 1) := by decide +kernel
theorem dX9_step_94 : decode cX9_step 94 = .ok (.iload_n 1, 1) := by decide +kernel
theorem dX9_step_95 : decode cX9_step 95 = .ok (.aload_n 0, 1) := by decide +kernel
theorem dX9_step_96 : decode cX9_step 96 = .ok (.getfield 9, 3) := by decide +kernel
theorem dX9_step_99 : decode cX9_step 99 = .ok (.iadd, 1) := by decide +kernel
theorem dX9_step_100 : decode cX9_step 100 = .ok (.invokevirtual 53, 3) := by decide +kernel
theorem dX9_step_103 : decode cX9_step 103 = .ok (.ifCond .eq 12, 3) := by decide +kernel
theorem dX9_step_106 : decode cX9_step 106 = .ok (.iload_n 1, 1) := by decide +kernel
theorem dX9_step_107 : decode cX9_step 107 = .ok (.aload_n 0, 1) := by decide +kernel
theorem dX9_step_108 : decode cX9_step 108 = .ok (.getfield 9, 3) := by decide +kernel
theorem dX9_step_111 : decode cX9_step 111 = .ok (.iadd, 1) := by decide +kernel
theorem dX9_step_112 : decode cX9_step 112 = .ok (.goto 4, 3) := by decide +kernel
theorem dX9_step_115 : decode cX9_step 115 = .ok (.iconst (-1), 1) := by decide +kernel
theorem dX9_step_116 : decode cX9_step 116 = .ok (.ireturn, 1) := by decide +kernel
theorem dX9_step_117 : decode cX9_step 117 = .ok (.iload_n 3, 1) := by decide +kernel
theorem dX9_step_118 : decode cX9_step 118 = .ok (.ifCond .le 9, 3) := by decide +kernel
theorem dX9_step_121 : decode cX9_step 121 = .ok (.iload_n 1, 1) := by decide +kernel
theorem dX9_step_122 : decode cX9_step 122 = .ok (.iconst 1, 1) := by decide +kernel
theorem dX9_step_123 : decode cX9_step 123 = .ok (.isub, 1) := by decide +kernel
theorem dX9_step_124 : decode cX9_step 124 = .ok (.goto 4, 3) := by decide +kernel
theorem dX9_step_127 : decode cX9_step 127 = .ok (.iconst (-1), 1) := by decide +kernel
theorem dX9_step_128 : decode cX9_step 128 = .ok (.ireturn, 1) := by decide +kernel
theorem dX9_step_129 : decode cX9_step 129 = .ok (.iconst (-1), 1) := by decide +kernel
theorem dX9_step_130 : decode cX9_step 130 = .ok (.ireturn, 1) := by decide +kernel
set_option maxHeartbeats 4000000 in
set_option maxRecDepth 100000 in
theorem s_X9_step (d : Nat) (h : Hp) (i c k W H : Int) (eW : gI h 9 i 0 = W) (eH : gI h 9 i 1 = H) (hb : seaB W H) : Sp mX9_step (d + 2) (0, 0) [xr 9 i, xi c, xi k] h (fun rv h2 => rv = some (xi (stepF W H c k)) ∧ h2 = h) := by
  refine sp_of (by decide) rfl (Nat.le_of_ble_eq_true rfl) (ls := [some (xr 9 i), some (xi c), some (xi k), none]) rfl (fun E hE => ?_)
  have hm := sea_mul hb
  refine x_aload_n (i := 0) (b := 1) dX9_step_0 rfl rfl rfl ?_
  refine x_iload_n (i := 1) (b := 2) dX9_step_1 rfl rfl rfl ?_
  refine x_callV (as := [xi c]) (rest := []) (b := 5) (s_X9_isCell _ h i c W H eW eH hb) dX9_step_2 cw_X9_53 ⟨_, _, rfl, by decide⟩ rfl rfl (Nat.le_of_ble_eq_true rfl) ⟨Nat.le_refl _, Nat.le_refl _⟩ rfl (fun rv h2 hq _ => ?_)
  obtain ⟨rfl, he⟩ := hq
  replace he := he.symm
  subst he
  refine x_if_eq (tgt := 16) (b := 8) dX9_step_5 (by decide) rfl (fun hc_5 => ?_) (fun hc_5 => ?_)
  · have hc_5 := b2i_0.mp hc_5
    refine x_iconst (n := (-1)) (b := 17) dX9_step_16 (by decide) rfl ?_
    refine x_ireturn dX9_step_17 rfl ⟨Nat.le_refl _, Nat.le_refl _⟩ ?_
    refine ⟨congrArg (fun z => some (xi z)) ?_, rfl⟩
    simp only [stepF, cellP]
    (repeat' split) <;> omega
  · have hc_5 := b2i_n.mp hc_5
    refine x_aload_n (i := 0) (b := 9) dX9_step_8 rfl rfl rfl ?_
    refine x_getI (v := W) (b := 12) fk_X9_9 dX9_step_9 (by decide) eW rfl ?_
    refine x_iconst (n := 1) (b := 13) dX9_step_12 (by decide) rfl ?_
    refine x_icmp_ge (tgt := 18) (b := 16) dX9_step_13 (by decide) rfl (fun hc_13 => ?_) (fun hc_13 => ?_)
    · refine x_iload_n (i := 1) (b := 19) dX9_step_18 rfl rfl rfl ?_
      refine x_aload_n (i := 0) (b := 20) dX9_step_19 rfl rfl rfl ?_
      refine x_getI (v := W) (b := 23) fk_X9_9 dX9_step_20 (by decide) eW rfl ?_
      refine x_irem (b := 24) dX9_step_23 (by omega) (by omega) rfl ?_
      refine x_istore_n (i := 3) (b := 25) (ls2 := [some (xr 9 i), some (xi c), some (xi k), some (xi (c % W))]) dX9_step_24 rfl (Nat.le_of_ble_eq_true rfl) rfl rfl ?_
      have hmod1 := Int.emod_nonneg c (show W ≠ 0 by omega)
      have hmod2 := Int.emod_lt_of_pos c (show 0 < W by omega)
      refine x_iload_n (i := 2) (b := 26) dX9_step_25 rfl rfl rfl ?_
      rcases (show k = 0 ∨ k = 1 ∨ k = 2 ∨ k = 3 ∨ (k < 0 ∨ 3 < k) by omega) with hc_26 | hc_26 | hc_26 | hc_26 | hc_26
      · refine x_tableIn (tgt := 56) dX9_step_26 0 hc_26 ⟨by decide, by decide⟩ rfl (by decide) ?_
        refine x_iload_n (i := 1) (b := 57) dX9_step_56 rfl rfl rfl ?_
        refine x_aload_n (i := 0) (b := 58) dX9_step_57 rfl rfl rfl ?_
        refine x_getI (v := W) (b := 61) fk_X9_9 dX9_step_58 (by decide) eW rfl ?_
        refine x_icmp_lt (tgt := 73) (b := 64) dX9_step_61 (by decide) rfl (fun hc_61 => ?_) (fun hc_61 => ?_)
        · refine x_iconst (n := (-1)) (b := 74) dX9_step_73 (by decide) rfl ?_
          refine x_ireturn dX9_step_74 rfl ⟨Nat.le_refl _, Nat.le_refl _⟩ ?_
          refine ⟨congrArg (fun z => some (xi z)) ?_, rfl⟩
          simp only [stepF, cellP]
          (repeat' split) <;> omega
        · refine x_iload_n (i := 1) (b := 65) dX9_step_64 rfl rfl rfl ?_
          refine x_aload_n (i := 0) (b := 66) dX9_step_65 rfl rfl rfl ?_
          refine x_getI (v := W) (b := 69) fk_X9_9 dX9_step_66 (by decide) eW rfl ?_
          refine x_isub (b := 70) dX9_step_69 (by omega) rfl ?_
          refine x_goto (tgt := 74) dX9_step_70 (by decide) ?_
          refine x_ireturn dX9_step_74 rfl ⟨Nat.le_refl _, Nat.le_refl _⟩ ?_
          refine ⟨congrArg (fun z => some (xi z)) ?_, rfl⟩
          simp only [stepF, cellP]
          (repeat' split) <;> omega
      · refine x_tableIn (tgt := 75) dX9_step_26 1 hc_26 ⟨by decide, by decide⟩ rfl (by decide) ?_
        refine x_iload_n (i := 3) (b := 76) dX9_step_75 rfl rfl rfl ?_
        refine x_iconst (n := 1) (b := 77) dX9_step_76 (by decide) rfl ?_
        refine x_iadd (b := 78) dX9_step_77 (by omega) rfl ?_
        refine x_aload_n (i := 0) (b := 79) dX9_step_78 rfl rfl rfl ?_
        refine x_getI (v := W) (b := 82) fk_X9_9 dX9_step_79 (by decide) eW rfl ?_
        refine x_icmp_ge (tgt := 91) (b := 85) dX9_step_82 (by decide) rfl (fun hc_82 => ?_) (fun hc_82 => ?_)
        · refine x_iconst (n := (-1)) (b := 92) dX9_step_91 (by decide) rfl ?_
          refine x_ireturn dX9_step_92 rfl ⟨Nat.le_refl _, Nat.le_refl _⟩ ?_
          refine ⟨congrArg (fun z => some (xi z)) ?_, rfl⟩
          simp only [stepF, cellP]
          (repeat' split) <;> omega
        · refine x_iload_n (i := 1) (b := 86) dX9_step_85 rfl rfl rfl ?_
          refine x_iconst (n := 1) (b := 87) dX9_step_86 (by decide) rfl ?_
          refine x_iadd (b := 88) dX9_step_87 (by omega) rfl ?_
          refine x_goto (tgt := 92) dX9_step_88 (by decide) ?_
          refine x_ireturn dX9_step_92 rfl ⟨Nat.le_refl _, Nat.le_refl _⟩ ?_
          refine ⟨congrArg (fun z => some (xi z)) ?_, rfl⟩
          simp only [stepF, cellP]
          (repeat' split) <;> omega
      · refine x_tableIn (tgt := 93) dX9_step_26 2 hc_26 ⟨by decide, by decide⟩ rfl (by decide) ?_
        refine x_aload_n (i := 0) (b := 94) dX9_step_93 rfl rfl rfl ?_
        refine x_iload_n (i := 1) (b := 95) dX9_step_94 rfl rfl rfl ?_
        refine x_aload_n (i := 0) (b := 96) dX9_step_95 rfl rfl rfl ?_
        refine x_getI (v := W) (b := 99) fk_X9_9 dX9_step_96 (by decide) eW rfl ?_
        refine x_iadd (b := 100) dX9_step_99 (by omega) rfl ?_
        refine x_callV (as := [xi (c + W)]) (rest := []) (b := 103) (s_X9_isCell _ h i (c + W) W H eW eH hb) dX9_step_100 cw_X9_53 ⟨_, _, rfl, by decide⟩ rfl rfl (Nat.le_of_ble_eq_true rfl) ⟨Nat.le_refl _, Nat.le_refl _⟩ rfl (fun rv h2 hq _ => ?_)
        obtain ⟨rfl, he⟩ := hq
        replace he := he.symm
        subst he
        refine x_if_eq (tgt := 115) (b := 106) dX9_step_103 (by decide) rfl (fun hc_103 => ?_) (fun hc_103 => ?_)
        · have hc_103 := b2i_0.mp hc_103
          refine x_iconst (n := (-1)) (b := 116) dX9_step_115 (by decide) rfl ?_
          refine x_ireturn dX9_step_116 rfl ⟨Nat.le_refl _, Nat.le_refl _⟩ ?_
          refine ⟨congrArg (fun z => some (xi z)) ?_, rfl⟩
          simp only [stepF, cellP]
          (repeat' split) <;> omega
        · have hc_103 := b2i_n.mp hc_103
          refine x_iload_n (i := 1) (b := 107) dX9_step_106 rfl rfl rfl ?_
          refine x_aload_n (i := 0) (b := 108) dX9_step_107 rfl rfl rfl ?_
          refine x_getI (v := W) (b := 111) fk_X9_9 dX9_step_108 (by decide) eW rfl ?_
          refine x_iadd (b := 112) dX9_step_111 (by omega) rfl ?_
          refine x_goto (tgt := 116) dX9_step_112 (by decide) ?_
          refine x_ireturn dX9_step_116 rfl ⟨Nat.le_refl _, Nat.le_refl _⟩ ?_
          refine ⟨congrArg (fun z => some (xi z)) ?_, rfl⟩
          simp only [stepF, cellP]
          (repeat' split) <;> omega
      · refine x_tableIn (tgt := 117) dX9_step_26 3 hc_26 ⟨by decide, by decide⟩ rfl (by decide) ?_
        refine x_iload_n (i := 3) (b := 118) dX9_step_117 rfl rfl rfl ?_
        refine x_if_le (tgt := 127) (b := 121) dX9_step_118 (by decide) rfl (fun hc_118 => ?_) (fun hc_118 => ?_)
        · refine x_iconst (n := (-1)) (b := 128) dX9_step_127 (by decide) rfl ?_
          refine x_ireturn dX9_step_128 rfl ⟨Nat.le_refl _, Nat.le_refl _⟩ ?_
          refine ⟨congrArg (fun z => some (xi z)) ?_, rfl⟩
          simp only [stepF, cellP]
          (repeat' split) <;> omega
        · refine x_iload_n (i := 1) (b := 122) dX9_step_121 rfl rfl rfl ?_
          refine x_iconst (n := 1) (b := 123) dX9_step_122 (by decide) rfl ?_
          refine x_isub (b := 124) dX9_step_123 (by omega) rfl ?_
          refine x_goto (tgt := 128) dX9_step_124 (by decide) ?_
          refine x_ireturn dX9_step_128 rfl ⟨Nat.le_refl _, Nat.le_refl _⟩ ?_
          refine ⟨congrArg (fun z => some (xi z)) ?_, rfl⟩
          simp only [stepF, cellP]
          (repeat' split) <;> omega
      · refine x_tableOut (tgt := 129) dX9_step_26 hc_26 (by decide) ?_
        refine x_iconst (n := (-1)) (b := 130) dX9_step_129 (by decide) rfl ?_
        refine x_ireturn dX9_step_130 rfl ⟨Nat.le_refl _, Nat.le_refl _⟩ ?_
        refine ⟨congrArg (fun z => some (xi z)) ?_, rfl⟩
        simp only [stepF, cellP]
        (repeat' split) <;> omega
    · refine x_iconst (n := (-1)) (b := 17) dX9_step_16 (by decide) rfl ?_
      refine x_ireturn dX9_step_17 rfl ⟨Nat.le_refl _, Nat.le_refl _⟩ ?_
      refine ⟨congrArg (fun z => some (xi z)) ?_, rfl⟩
      simp only [stepF, cellP]
      (repeat' split) <;> omega
/-- the first place from k on, below N, that holds x; -1 without -/
def fndA (f : Int → Int) (x : Int) : Nat → Int → Int
  | 0, _ => -1
  | n + 1, k => if f k = x then k else fndA f x n (k + 1)
def fnd (f : Int → Int) (x N k : Int) : Int := fndA f x (N - k).toNat k
theorem fnd_0 {f : Int → Int} {x N k : Int} (h : N ≤ k) : fnd f x N k = -1 := by
  unfold fnd
  rw [show (N - k).toNat = 0 by omega]
  rfl
theorem fnd_y {f : Int → Int} {x N k : Int} (h : k < N) (e : f k = x) : fnd f x N k = k := by
  unfold fnd
  rw [show (N - k).toNat = (N - (k + 1)).toNat + 1 by omega, fndA, if_pos e]
theorem fnd_n {f : Int → Int} {x N k : Int} (h : k < N) (e : ¬ f k = x) : fnd f x N k = fnd f x N (k + 1) := by
  unfold fnd
  rw [show (N - k).toNat = (N - (k + 1)).toNat + 1 by omega, fndA, if_neg e]
theorem b2i_t {p : Prop} [Decidable p] (h : p) : b2i p = 1 := if_pos h
theorem b2i_f {p : Prop} [Decidable p] (h : ¬ p) : b2i p = 0 := if_neg h
theorem some_xi {x y : Int} (h : x = y) : some (xi x) = some (xi y) := by rw [h]
theorem dX9_fromBahia_0 : decode cX9_fromBahia 0 = .ok (.iload_n 1, 1) := by decide +kernel
theorem dX9_fromBahia_1 : decode cX9_fromBahia 1 = .ok (.ifCond .lt 22, 3) := by decide +kernel
theorem dX9_fromBahia_4 : decode cX9_fromBahia 4 = .ok (.iload_n 1, 1) := by decide +kernel
theorem dX9_fromBahia_5 : decode cX9_fromBahia 5 = .ok (.bipush 64, 2) := by decide +kernel
theorem dX9_fromBahia_7 : decode cX9_fromBahia 7 = .ok (.if_icmp .ge 16, 3) := by decide +kernel
theorem dX9_fromBahia_10 : decode cX9_fromBahia 10 = .ok (.aload_n 0, 1) := by decide +kernel
theorem dX9_fromBahia_11 : decode cX9_fromBahia 11 = .ok (.getfield 47, 3) := by decide +kernel
theorem dX9_fromBahia_14 : decode cX9_fromBahia 14 = .ok (.sipush 192, 3) := by decide +kernel
theorem dX9_fromBahia_17 : decode cX9_fromBahia 17 = .ok (.iload_n 1, 1) := by decide +kernel
theorem dX9_fromBahia_18 : decode cX9_fromBahia 18 = .ok (.iadd, 1) := by decide +kernel
theorem dX9_fromBahia_19 : decode cX9_fromBahia 19 = .ok (.iaload, 1) := by decide +kernel
theorem dX9_fromBahia_20 : decode cX9_fromBahia 20 = .ok (.goto 5, 3) := by decide +kernel
theorem dX9_fromBahia_23 : decode cX9_fromBahia 23 = .ok (.bipush 99, 2) := by decide +kernel
theorem dX9_fromBahia_25 : decode cX9_fromBahia 25 = .ok (.ireturn, 1) := by decide +kernel
set_option maxHeartbeats 4000000 in
set_option maxRecDepth 100000 in
theorem s_X9_fromBahia (d : Nat) (h : Hp) (hL : Lay h) (i c : Int) : Sp mX9_fromBahia (d + 1) (0, 0) [xr 9 i, xi c] h (fun rv h2 => rv = some (xi (if 0 ≤ c ∧ c < 64 then gI h 55 i (192 + c) else 99)) ∧ h2 = h) := by
  refine sp_of (by decide) rfl (Nat.le_of_ble_eq_true rfl) (ls := [some (xr 9 i), some (xi c)]) rfl (fun E hE => ?_)
  refine x_iload_n (i := 1) (b := 1) dX9_fromBahia_0 rfl rfl rfl ?_
  refine x_if_lt (tgt := 23) (b := 4) dX9_fromBahia_1 (by decide) rfl (fun hc_1 => ?_) (fun hc_1 => ?_)
  · refine x_bipush (n := 99) (b := 25) dX9_fromBahia_23 (by decide) rfl ?_
    refine x_ireturn dX9_fromBahia_25 rfl ⟨Nat.le_refl _, Nat.le_refl _⟩ ?_
    exact ⟨some_xi (by split <;> first | rfl | omega), rfl⟩
  · refine x_iload_n (i := 1) (b := 5) dX9_fromBahia_4 rfl rfl rfl ?_
    refine x_bipush (n := 64) (b := 7) dX9_fromBahia_5 (by decide) rfl ?_
    refine x_icmp_ge (tgt := 23) (b := 10) dX9_fromBahia_7 (by decide) rfl (fun hc_7 => ?_) (fun hc_7 => ?_)
    · refine x_bipush (n := 99) (b := 25) dX9_fromBahia_23 (by decide) rfl ?_
      refine x_ireturn dX9_fromBahia_25 rfl ⟨Nat.le_refl _, Nat.le_refl _⟩ ?_
      exact ⟨some_xi (by split <;> first | rfl | omega), rfl⟩
    · refine x_aload_n (i := 0) (b := 11) dX9_fromBahia_10 rfl rfl rfl ?_
      refine x_getL (j := i) (t := (55, 0, true)) (b := 14) fk_X9_47 dX9_fromBahia_11 rfl hL rfl rfl rfl ?_
      refine x_sipush (n := 192) (b := 17) dX9_fromBahia_14 (by decide) rfl ?_
      refine x_iload_n (i := 1) (b := 18) dX9_fromBahia_17 rfl rfl rfl ?_
      refine x_iadd (b := 19) dX9_fromBahia_18 (by omega) rfl ?_
      refine x_iald (v := gI h 55 i (192 + c)) (b := 20) ⟨by decide, by decide, rfl, rfl, by decide⟩ dX9_fromBahia_19 (show 0 ≤ (192 + c) ∧ (192 + c) < ((320 : Nat) : Int) from (by omega)) rfl rfl ?_
      refine x_goto (tgt := 25) dX9_fromBahia_20 (by decide) ?_
      refine x_ireturn dX9_fromBahia_25 rfl ⟨Nat.le_refl _, Nat.le_refl _⟩ ?_
      exact ⟨some_xi (by split <;> first | rfl | omega), rfl⟩
theorem dX9_fromIsle_0 : decode cX9_fromIsle 0 = .ok (.iload_n 1, 1) := by decide +kernel
theorem dX9_fromIsle_1 : decode cX9_fromIsle 1 = .ok (.ifCond .lt 22, 3) := by decide +kernel
theorem dX9_fromIsle_4 : decode cX9_fromIsle 4 = .ok (.iload_n 1, 1) := by decide +kernel
theorem dX9_fromIsle_5 : decode cX9_fromIsle 5 = .ok (.iconst 3, 1) := by decide +kernel
theorem dX9_fromIsle_6 : decode cX9_fromIsle 6 = .ok (.if_icmp .ge 17, 3) := by decide +kernel
theorem dX9_fromIsle_9 : decode cX9_fromIsle 9 = .ok (.iload_n 2, 1) := by decide +kernel
theorem dX9_fromIsle_10 : decode cX9_fromIsle 10 = .ok (.ifCond .lt 13, 3) := by decide +kernel
theorem dX9_fromIsle_13 : decode cX9_fromIsle 13 = .ok (.iload_n 2, 1) := by decide +kernel
theorem dX9_fromIsle_14 : decode cX9_fromIsle 14 = .ok (.bipush 64, 2) := by decide +kernel
theorem dX9_fromIsle_16 : decode cX9_fromIsle 16 = .ok (.if_icmp .ge 7, 3) := by decide +kernel
theorem dX9_fromIsle_19 : decode cX9_fromIsle 19 = .ok (.iconst 1, 1) := by decide +kernel
theorem dX9_fromIsle_20 : decode cX9_fromIsle 20 = .ok (.goto 4, 3) := by decide +kernel
theorem dX9_fromIsle_23 : decode cX9_fromIsle 23 = .ok (.iconst 0, 1) := by decide +kernel
theorem dX9_fromIsle_24 : decode cX9_fromIsle 24 = .ok (.istore_n 3, 1) := by decide +kernel
theorem dX9_fromIsle_25 : decode cX9_fromIsle 25 = .ok (.iload_n 3, 1) := by decide +kernel
theorem dX9_fromIsle_26 : decode cX9_fromIsle 26 = .ok (.ifCond .eq 17, 3) := by decide +kernel
theorem dX9_fromIsle_29 : decode cX9_fromIsle 29 = .ok (.aload_n 0, 1) := by decide +kernel
theorem dX9_fromIsle_30 : decode cX9_fromIsle 30 = .ok (.getfield 47, 3) := by decide +kernel
theorem dX9_fromIsle_33 : decode cX9_fromIsle 33 = .ok (.iload_n 1, 1) := by decide +kernel
theorem dX9_fromIsle_34 : decode cX9_fromIsle 34 = .ok (.bipush 64, 2) := by decide +kernel
theorem dX9_fromIsle_36 : decode cX9_fromIsle 36 = .ok (.imul, 1) := by decide +kernel
theorem dX9_fromIsle_37 : decode cX9_fromIsle 37 = .ok (.iload_n 2, 1) := by decide +kernel
theorem dX9_fromIsle_38 : decode cX9_fromIsle 38 = .ok (.iadd, 1) := by decide +kernel
theorem dX9_fromIsle_39 : decode cX9_fromIsle 39 = .ok (.iaload, 1) := by decide +kernel
theorem dX9_fromIsle_40 : decode cX9_fromIsle 40 = .ok (.goto 5, 3) := by decide +kernel
theorem dX9_fromIsle_43 : decode cX9_fromIsle 43 = .ok (.bipush 99, 2) := by decide +kernel
theorem dX9_fromIsle_45 : decode cX9_fromIsle 45 = .ok (.ireturn, 1) := by decide +kernel
set_option maxHeartbeats 4000000 in
set_option maxRecDepth 100000 in
theorem s_X9_fromIsle (d : Nat) (h : Hp) (hL : Lay h) (i q c : Int) : Sp mX9_fromIsle (d + 1) (0, 0) [xr 9 i, xi q, xi c] h (fun rv h2 => rv = some (xi (if (0 ≤ q ∧ q < 3) ∧ 0 ≤ c ∧ c < 64 then gI h 55 i (q * 64 + c) else 99)) ∧ h2 = h) := by
  refine sp_of (by decide) rfl (Nat.le_of_ble_eq_true rfl) (ls := [some (xr 9 i), some (xi q), some (xi c), none]) rfl (fun E hE => ?_)
  refine x_iload_n (i := 1) (b := 1) dX9_fromIsle_0 rfl rfl rfl ?_
  refine x_if_lt (tgt := 23) (b := 4) dX9_fromIsle_1 (by decide) rfl (fun hc_1 => ?_) (fun hc_1 => ?_)
  · refine x_iconst (n := 0) (b := 24) dX9_fromIsle_23 (by decide) rfl ?_
    refine x_istore_n (i := 3) (b := 25) (ls2 := [some (xr 9 i), some (xi q), some (xi c), some (xi 0)]) dX9_fromIsle_24 rfl (Nat.le_of_ble_eq_true rfl) rfl rfl ?_
    refine x_iload_n (i := 3) (b := 26) dX9_fromIsle_25 rfl rfl rfl ?_
    refine x_if_eq (tgt := 43) (b := 29) dX9_fromIsle_26 (by decide) rfl (fun hc_26 => ?_) (fun hc_26 => ?_)
    · refine x_bipush (n := 99) (b := 45) dX9_fromIsle_43 (by decide) rfl ?_
      refine x_ireturn dX9_fromIsle_45 rfl ⟨Nat.le_refl _, Nat.le_refl _⟩ ?_
      exact ⟨some_xi (by split <;> first | rfl | omega), rfl⟩
    · exact absurd hc_26 (by decide)
  · refine x_iload_n (i := 1) (b := 5) dX9_fromIsle_4 rfl rfl rfl ?_
    refine x_iconst (n := 3) (b := 6) dX9_fromIsle_5 (by decide) rfl ?_
    refine x_icmp_ge (tgt := 23) (b := 9) dX9_fromIsle_6 (by decide) rfl (fun hc_6 => ?_) (fun hc_6 => ?_)
    · refine x_iconst (n := 0) (b := 24) dX9_fromIsle_23 (by decide) rfl ?_
      refine x_istore_n (i := 3) (b := 25) (ls2 := [some (xr 9 i), some (xi q), some (xi c), some (xi 0)]) dX9_fromIsle_24 rfl (Nat.le_of_ble_eq_true rfl) rfl rfl ?_
      refine x_iload_n (i := 3) (b := 26) dX9_fromIsle_25 rfl rfl rfl ?_
      refine x_if_eq (tgt := 43) (b := 29) dX9_fromIsle_26 (by decide) rfl (fun hc_26 => ?_) (fun hc_26 => ?_)
      · refine x_bipush (n := 99) (b := 45) dX9_fromIsle_43 (by decide) rfl ?_
        refine x_ireturn dX9_fromIsle_45 rfl ⟨Nat.le_refl _, Nat.le_refl _⟩ ?_
        exact ⟨some_xi (by split <;> first | rfl | omega), rfl⟩
      · exact absurd hc_26 (by decide)
    · refine x_iload_n (i := 2) (b := 10) dX9_fromIsle_9 rfl rfl rfl ?_
      refine x_if_lt (tgt := 23) (b := 13) dX9_fromIsle_10 (by decide) rfl (fun hc_10 => ?_) (fun hc_10 => ?_)
      · refine x_iconst (n := 0) (b := 24) dX9_fromIsle_23 (by decide) rfl ?_
        refine x_istore_n (i := 3) (b := 25) (ls2 := [some (xr 9 i), some (xi q), some (xi c), some (xi 0)]) dX9_fromIsle_24 rfl (Nat.le_of_ble_eq_true rfl) rfl rfl ?_
        refine x_iload_n (i := 3) (b := 26) dX9_fromIsle_25 rfl rfl rfl ?_
        refine x_if_eq (tgt := 43) (b := 29) dX9_fromIsle_26 (by decide) rfl (fun hc_26 => ?_) (fun hc_26 => ?_)
        · refine x_bipush (n := 99) (b := 45) dX9_fromIsle_43 (by decide) rfl ?_
          refine x_ireturn dX9_fromIsle_45 rfl ⟨Nat.le_refl _, Nat.le_refl _⟩ ?_
          exact ⟨some_xi (by split <;> first | rfl | omega), rfl⟩
        · exact absurd hc_26 (by decide)
      · refine x_iload_n (i := 2) (b := 14) dX9_fromIsle_13 rfl rfl rfl ?_
        refine x_bipush (n := 64) (b := 16) dX9_fromIsle_14 (by decide) rfl ?_
        refine x_icmp_ge (tgt := 23) (b := 19) dX9_fromIsle_16 (by decide) rfl (fun hc_16 => ?_) (fun hc_16 => ?_)
        · refine x_iconst (n := 0) (b := 24) dX9_fromIsle_23 (by decide) rfl ?_
          refine x_istore_n (i := 3) (b := 25) (ls2 := [some (xr 9 i), some (xi q), some (xi c), some (xi 0)]) dX9_fromIsle_24 rfl (Nat.le_of_ble_eq_true rfl) rfl rfl ?_
          refine x_iload_n (i := 3) (b := 26) dX9_fromIsle_25 rfl rfl rfl ?_
          refine x_if_eq (tgt := 43) (b := 29) dX9_fromIsle_26 (by decide) rfl (fun hc_26 => ?_) (fun hc_26 => ?_)
          · refine x_bipush (n := 99) (b := 45) dX9_fromIsle_43 (by decide) rfl ?_
            refine x_ireturn dX9_fromIsle_45 rfl ⟨Nat.le_refl _, Nat.le_refl _⟩ ?_
            exact ⟨some_xi (by split <;> first | rfl | omega), rfl⟩
          · exact absurd hc_26 (by decide)
        · refine x_iconst (n := 1) (b := 20) dX9_fromIsle_19 (by decide) rfl ?_
          refine x_goto (tgt := 24) dX9_fromIsle_20 (by decide) ?_
          refine x_istore_n (i := 3) (b := 25) (ls2 := [some (xr 9 i), some (xi q), some (xi c), some (xi 1)]) dX9_fromIsle_24 rfl (Nat.le_of_ble_eq_true rfl) rfl rfl ?_
          refine x_iload_n (i := 3) (b := 26) dX9_fromIsle_25 rfl rfl rfl ?_
          refine x_if_eq (tgt := 43) (b := 29) dX9_fromIsle_26 (by decide) rfl (fun hc_26 => ?_) (fun hc_26 => ?_)
          · exact absurd hc_26 (by decide)
          · refine x_aload_n (i := 0) (b := 30) dX9_fromIsle_29 rfl rfl rfl ?_
            refine x_getL (j := i) (t := (55, 0, true)) (b := 33) fk_X9_47 dX9_fromIsle_30 rfl hL rfl rfl rfl ?_
            refine x_iload_n (i := 1) (b := 34) dX9_fromIsle_33 rfl rfl rfl ?_
            refine x_bipush (n := 64) (b := 36) dX9_fromIsle_34 (by decide) rfl ?_
            refine x_imul (b := 37) dX9_fromIsle_36 (by omega) rfl ?_
            refine x_iload_n (i := 2) (b := 38) dX9_fromIsle_37 rfl rfl rfl ?_
            refine x_iadd (b := 39) dX9_fromIsle_38 (by omega) rfl ?_
            refine x_iald (v := gI h 55 i ((q * 64) + c)) (b := 40) ⟨by decide, by decide, rfl, rfl, by decide⟩ dX9_fromIsle_39 (show 0 ≤ ((q * 64) + c) ∧ ((q * 64) + c) < ((320 : Nat) : Int) from (by omega)) rfl rfl ?_
            refine x_goto (tgt := 45) dX9_fromIsle_40 (by decide) ?_
            refine x_ireturn dX9_fromIsle_45 rfl ⟨Nat.le_refl _, Nat.le_refl _⟩ ?_
            exact ⟨some_xi (by split <;> first | rfl | omega), rfl⟩
theorem dX9_isleNamed_0 : decode cX9_isleNamed 0 = .ok (.iconst 0, 1) := by decide +kernel
theorem dX9_isleNamed_1 : decode cX9_isleNamed 1 = .ok (.istore_n 2, 1) := by decide +kernel
theorem dX9_isleNamed_2 : decode cX9_isleNamed 2 = .ok (.iload_n 2, 1) := by decide +kernel
theorem dX9_isleNamed_3 : decode cX9_isleNamed 3 = .ok (.aload_n 0, 1) := by decide +kernel
theorem dX9_isleNamed_4 : decode cX9_isleNamed 4 = .ok (.getfield 31, 3) := by decide +kernel
theorem dX9_isleNamed_7 : decode cX9_isleNamed 7 = .ok (.if_icmp .ge 26, 3) := by decide +kernel
theorem dX9_isleNamed_10 : decode cX9_isleNamed 10 = .ok (.iload_n 2, 1) := by decide +kernel
theorem dX9_isleNamed_11 : decode cX9_isleNamed 11 = .ok (.iconst 3, 1) := by decide +kernel
theorem dX9_isleNamed_12 : decode cX9_isleNamed 12 = .ok (.if_icmp .ge 21, 3) := by decide +kernel
theorem dX9_isleNamed_15 : decode cX9_isleNamed 15 = .ok (.aload_n 0, 1) := by decide +kernel
theorem dX9_isleNamed_16 : decode cX9_isleNamed 16 = .ok (.getfield 34, 3) := by decide +kernel
theorem dX9_isleNamed_19 : decode cX9_isleNamed 19 = .ok (.iload_n 2, 1) := by decide +kernel
theorem dX9_isleNamed_20 : decode cX9_isleNamed 20 = .ok (.iaload, 1) := by decide +kernel
theorem dX9_isleNamed_21 : decode cX9_isleNamed 21 = .ok (.iload_n 1, 1) := by decide +kernel
theorem dX9_isleNamed_22 : decode cX9_isleNamed 22 = .ok (.if_icmp .ne 5, 3) := by decide +kernel
theorem dX9_isleNamed_25 : decode cX9_isleNamed 25 = .ok (.iload_n 2, 1) := by decide +kernel
theorem dX9_isleNamed_26 : decode cX9_isleNamed 26 = .ok (.ireturn, 1) := by decide +kernel
theorem dX9_isleNamed_27 : decode cX9_isleNamed 27 = .ok (.iinc 2 1, 3) := by decide +kernel
theorem dX9_isleNamed_30 : decode cX9_isleNamed 30 = .ok (.goto (-28), 3) := by decide +kernel
theorem dX9_isleNamed_33 : decode cX9_isleNamed 33 = .ok (.iconst (-1), 1) := by decide +kernel
theorem dX9_isleNamed_34 : decode cX9_isleNamed 34 = .ok (.ireturn, 1) := by decide +kernel
set_option maxHeartbeats 4000000 in
set_option maxRecDepth 100000 in
theorem l_X9_isleNamed_2 (E : xE) (Q : Option Av → Hp → Prop) (d : Nat) (h : Hp) (hL : Lay h) (i x n9 : Int) (e6 : gI h 9 i 6 = n9) (hn9 : 0 ≤ n9 ∧ n9 ≤ 3) : ∀ (n : Nat) (k : Int), n9 - k < (n : Int) → 0 ≤ k ∧ k ≤ n9 → Q (some (xi (fnd (gI h 51 i) x n9 k))) h → X E mX9_isleNamed (d + 1) (0, 0) (0, 0) 2 [some (xr 9 i), some (xi x), some (xi k)] [] h Q := by
  intro n
  induction n with
  | zero => intro k hn hk hq; exact absurd hn (by omega)
  | succ n ih =>
    intro k hn hk hq
    refine x_iload_n (i := 2) (b := 3) dX9_isleNamed_2 rfl rfl rfl ?_
    refine x_aload_n (i := 0) (b := 4) dX9_isleNamed_3 rfl rfl rfl ?_
    refine x_getI (v := n9) (b := 7) fk_X9_31 dX9_isleNamed_4 (by decide) e6 rfl ?_
    refine x_icmp_ge (tgt := 33) (b := 10) dX9_isleNamed_7 (by decide) rfl (fun hc_7 => ?_) (fun hc_7 => ?_)
    · refine x_iconst (n := (-1)) (b := 34) dX9_isleNamed_33 (by decide) rfl ?_
      refine x_ireturn dX9_isleNamed_34 rfl ⟨Nat.le_refl _, Nat.le_refl _⟩ ?_
      rw [show fnd (gI h 51 i) x n9 k = -1 from fnd_0 (by omega)] at hq
      exact hq
    · refine x_iload_n (i := 2) (b := 11) dX9_isleNamed_10 rfl rfl rfl ?_
      refine x_iconst (n := 3) (b := 12) dX9_isleNamed_11 (by decide) rfl ?_
      refine x_icmp_ge (tgt := 33) (b := 15) dX9_isleNamed_12 (by decide) rfl (fun hc_12 => ?_) (fun hc_12 => ?_)
      · refine x_iconst (n := (-1)) (b := 34) dX9_isleNamed_33 (by decide) rfl ?_
        refine x_ireturn dX9_isleNamed_34 rfl ⟨Nat.le_refl _, Nat.le_refl _⟩ ?_
        rw [show fnd (gI h 51 i) x n9 k = -1 from fnd_0 (by omega)] at hq
        exact hq
      · refine x_aload_n (i := 0) (b := 16) dX9_isleNamed_15 rfl rfl rfl ?_
        refine x_getL (j := i) (t := (51, 0, true)) (b := 19) fk_X9_34 dX9_isleNamed_16 rfl hL rfl rfl rfl ?_
        refine x_iload_n (i := 2) (b := 20) dX9_isleNamed_19 rfl rfl rfl ?_
        refine x_iald (v := gI h 51 i k) (b := 21) ⟨by decide, by decide, rfl, rfl, by decide⟩ dX9_isleNamed_20 (show 0 ≤ k ∧ k < ((3 : Nat) : Int) from (by omega)) rfl rfl ?_
        refine x_iload_n (i := 1) (b := 22) dX9_isleNamed_21 rfl rfl rfl ?_
        refine x_icmp_ne (tgt := 27) (b := 25) dX9_isleNamed_22 (by decide) rfl (fun hc_22 => ?_) (fun hc_22 => ?_)
        · refine x_iinc (i := 2) (b := 30) (ls2 := [some (xr 9 i), some (xi x), some (xi (k + 1))]) dX9_isleNamed_27 rfl (Nat.le_of_ble_eq_true rfl) (by omega) rfl rfl ?_
          refine x_goto (tgt := 2) dX9_isleNamed_30 (by decide) ?_
          exact ih (k + 1) (by omega) (by omega) (by rw [← fnd_n (show k < n9 by omega) hc_22]; exact hq)
        · refine x_iload_n (i := 2) (b := 26) dX9_isleNamed_25 rfl rfl rfl ?_
          refine x_ireturn dX9_isleNamed_26 rfl ⟨Nat.le_refl _, Nat.le_refl _⟩ ?_
          rw [show fnd (gI h 51 i) x n9 k = k from fnd_y (by omega) hc_22] at hq
          exact hq
set_option maxHeartbeats 4000000 in
set_option maxRecDepth 100000 in
theorem s_X9_isleNamed (d : Nat) (h : Hp) (hL : Lay h) (i x n9 : Int) (e6 : gI h 9 i 6 = n9) (hn9 : 0 ≤ n9 ∧ n9 ≤ 3) : Sp mX9_isleNamed (d + 1) (0, 0) [xr 9 i, xi x] h (fun rv h2 => rv = some (xi (fnd (gI h 51 i) x n9 0)) ∧ h2 = h) := by
  refine sp_of (by decide) rfl (Nat.le_of_ble_eq_true rfl) (ls := [some (xr 9 i), some (xi x), none]) rfl (fun E hE => ?_)
  refine x_iconst (n := 0) (b := 1) dX9_isleNamed_0 (by decide) rfl ?_
  refine x_istore_n (i := 2) (b := 2) (ls2 := [some (xr 9 i), some (xi x), some (xi 0)]) dX9_isleNamed_1 rfl (Nat.le_of_ble_eq_true rfl) rfl rfl ?_
  exact l_X9_isleNamed_2 E _ d h hL i x n9 e6 hn9 (n9.toNat + 1) 0 (by omega) (by omega) ⟨rfl, rfl⟩
theorem dX9_isIsle_0 : decode cX9_isIsle 0 = .ok (.iconst 0, 1) := by decide +kernel
theorem dX9_isIsle_1 : decode cX9_isIsle 1 = .ok (.istore_n 2, 1) := by decide +kernel
theorem dX9_isIsle_2 : decode cX9_isIsle 2 = .ok (.iload_n 2, 1) := by decide +kernel
theorem dX9_isIsle_3 : decode cX9_isIsle 3 = .ok (.aload_n 0, 1) := by decide +kernel
theorem dX9_isIsle_4 : decode cX9_isIsle 4 = .ok (.getfield 31, 3) := by decide +kernel
theorem dX9_isIsle_7 : decode cX9_isIsle 7 = .ok (.if_icmp .ge 26, 3) := by decide +kernel
theorem dX9_isIsle_10 : decode cX9_isIsle 10 = .ok (.iload_n 2, 1) := by decide +kernel
theorem dX9_isIsle_11 : decode cX9_isIsle 11 = .ok (.iconst 3, 1) := by decide +kernel
theorem dX9_isIsle_12 : decode cX9_isIsle 12 = .ok (.if_icmp .ge 21, 3) := by decide +kernel
theorem dX9_isIsle_15 : decode cX9_isIsle 15 = .ok (.aload_n 0, 1) := by decide +kernel
theorem dX9_isIsle_16 : decode cX9_isIsle 16 = .ok (.getfield 38, 3) := by decide +kernel
theorem dX9_isIsle_19 : decode cX9_isIsle 19 = .ok (.iload_n 2, 1) := by decide +kernel
theorem dX9_isIsle_20 : decode cX9_isIsle 20 = .ok (.iaload, 1) := by decide +kernel
theorem dX9_isIsle_21 : decode cX9_isIsle 21 = .ok (.iload_n 1, 1) := by decide +kernel
theorem dX9_isIsle_22 : decode cX9_isIsle 22 = .ok (.if_icmp .ne 5, 3) := by decide +kernel
theorem dX9_isIsle_25 : decode cX9_isIsle 25 = .ok (.iconst 1, 1) := by decide +kernel
theorem dX9_isIsle_26 : decode cX9_isIsle 26 = .ok (.ireturn, 1) := by decide +kernel
theorem dX9_isIsle_27 : decode cX9_isIsle 27 = .ok (.iinc 2 1, 3) := by decide +kernel
theorem dX9_isIsle_30 : decode cX9_isIsle 30 = .ok (.goto (-28), 3) := by decide +kernel
theorem dX9_isIsle_33 : decode cX9_isIsle 33 = .ok (.iconst 0, 1) := by decide +kernel
theorem dX9_isIsle_34 : decode cX9_isIsle 34 = .ok (.ireturn, 1) := by decide +kernel
set_option maxHeartbeats 4000000 in
set_option maxRecDepth 100000 in
theorem l_X9_isIsle_2 (E : xE) (Q : Option Av → Hp → Prop) (d : Nat) (h : Hp) (hL : Lay h) (i x n9 : Int) (e6 : gI h 9 i 6 = n9) (hn9 : 0 ≤ n9 ∧ n9 ≤ 3) : ∀ (n : Nat) (k : Int), n9 - k < (n : Int) → 0 ≤ k ∧ k ≤ n9 → Q (some (xi (b2i (¬ fnd (gI h 52 i) x n9 k = -1)))) h → X E mX9_isIsle (d + 1) (0, 0) (0, 0) 2 [some (xr 9 i), some (xi x), some (xi k)] [] h Q := by
  intro n
  induction n with
  | zero => intro k hn hk hq; exact absurd hn (by omega)
  | succ n ih =>
    intro k hn hk hq
    refine x_iload_n (i := 2) (b := 3) dX9_isIsle_2 rfl rfl rfl ?_
    refine x_aload_n (i := 0) (b := 4) dX9_isIsle_3 rfl rfl rfl ?_
    refine x_getI (v := n9) (b := 7) fk_X9_31 dX9_isIsle_4 (by decide) e6 rfl ?_
    refine x_icmp_ge (tgt := 33) (b := 10) dX9_isIsle_7 (by decide) rfl (fun hc_7 => ?_) (fun hc_7 => ?_)
    · refine x_iconst (n := 0) (b := 34) dX9_isIsle_33 (by decide) rfl ?_
      refine x_zreturn dX9_isIsle_34 rfl ⟨Nat.le_refl _, Nat.le_refl _⟩ (by decide) ?_
      rw [show b2i (¬ fnd (gI h 52 i) x n9 k = -1) = 0 from b2i_f (by rw [fnd_0 (by omega)]; decide)] at hq
      exact hq
    · refine x_iload_n (i := 2) (b := 11) dX9_isIsle_10 rfl rfl rfl ?_
      refine x_iconst (n := 3) (b := 12) dX9_isIsle_11 (by decide) rfl ?_
      refine x_icmp_ge (tgt := 33) (b := 15) dX9_isIsle_12 (by decide) rfl (fun hc_12 => ?_) (fun hc_12 => ?_)
      · refine x_iconst (n := 0) (b := 34) dX9_isIsle_33 (by decide) rfl ?_
        refine x_zreturn dX9_isIsle_34 rfl ⟨Nat.le_refl _, Nat.le_refl _⟩ (by decide) ?_
        rw [show b2i (¬ fnd (gI h 52 i) x n9 k = -1) = 0 from b2i_f (by rw [fnd_0 (by omega)]; decide)] at hq
        exact hq
      · refine x_aload_n (i := 0) (b := 16) dX9_isIsle_15 rfl rfl rfl ?_
        refine x_getL (j := i) (t := (52, 0, true)) (b := 19) fk_X9_38 dX9_isIsle_16 rfl hL rfl rfl rfl ?_
        refine x_iload_n (i := 2) (b := 20) dX9_isIsle_19 rfl rfl rfl ?_
        refine x_iald (v := gI h 52 i k) (b := 21) ⟨by decide, by decide, rfl, rfl, by decide⟩ dX9_isIsle_20 (show 0 ≤ k ∧ k < ((3 : Nat) : Int) from (by omega)) rfl rfl ?_
        refine x_iload_n (i := 1) (b := 22) dX9_isIsle_21 rfl rfl rfl ?_
        refine x_icmp_ne (tgt := 27) (b := 25) dX9_isIsle_22 (by decide) rfl (fun hc_22 => ?_) (fun hc_22 => ?_)
        · refine x_iinc (i := 2) (b := 30) (ls2 := [some (xr 9 i), some (xi x), some (xi (k + 1))]) dX9_isIsle_27 rfl (Nat.le_of_ble_eq_true rfl) (by omega) rfl rfl ?_
          refine x_goto (tgt := 2) dX9_isIsle_30 (by decide) ?_
          exact ih (k + 1) (by omega) (by omega) (by rw [← fnd_n (f := gI h 52 i) (show k < n9 by omega) hc_22]; exact hq)
        · refine x_iconst (n := 1) (b := 26) dX9_isIsle_25 (by decide) rfl ?_
          refine x_zreturn dX9_isIsle_26 rfl ⟨Nat.le_refl _, Nat.le_refl _⟩ (by decide) ?_
          rw [show b2i (¬ fnd (gI h 52 i) x n9 k = -1) = 1 from b2i_t (by rw [fnd_y (by omega) hc_22]; omega)] at hq
          exact hq
set_option maxHeartbeats 4000000 in
set_option maxRecDepth 100000 in
theorem s_X9_isIsle (d : Nat) (h : Hp) (hL : Lay h) (i x n9 : Int) (e6 : gI h 9 i 6 = n9) (hn9 : 0 ≤ n9 ∧ n9 ≤ 3) : Sp mX9_isIsle (d + 1) (0, 0) [xr 9 i, xi x] h (fun rv h2 => rv = some (xi (b2i (¬ fnd (gI h 52 i) x n9 0 = -1))) ∧ h2 = h) := by
  refine sp_of (by decide) rfl (Nat.le_of_ble_eq_true rfl) (ls := [some (xr 9 i), some (xi x), none]) rfl (fun E hE => ?_)
  refine x_iconst (n := 0) (b := 1) dX9_isIsle_0 (by decide) rfl ?_
  refine x_istore_n (i := 2) (b := 2) (ls2 := [some (xr 9 i), some (xi x), some (xi 0)]) dX9_isIsle_1 rfl (Nat.le_of_ble_eq_true rfl) rfl rfl ?_
  exact l_X9_isIsle_2 E _ d h hL i x n9 e6 hn9 (n9.toNat + 1) 0 (by omega) (by omega) ⟨rfl, rfl⟩
